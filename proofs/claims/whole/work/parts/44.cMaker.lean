set_option maxRecDepth 100000 in
set_option maxHeartbeats 400000 in
theorem c_Maker_makeTiny (l : Launch) (E : Ev) (σ τ : St) (q : Int64) (o : Nat) (a1 : Nat) (a2 : Bool) (a3 : Int32) (a4 : Nat) (ho : isMaker o) (ha1 : isSize a1) (ha4 : isReal a4) : MF l y_Maker_makeTiny prog_3_method_3_code 7 none { frames := 2, cells := 0, slots := 0, locals := 52 } E [.ref o, .ref a1, .int (bI a2), .int a3, .ref a4] (σ, τ, q) none ((f_Maker_makeTiny σ o a1 a2 a3 a4), τ, q) := by
  refine MF_intro (lv0 := [(0, .ref o), (1, .ref a1), (2, .int (bI a2)), (3, .int a3), (4, .ref a4)]) (by decide) wd_174 (Nat.le_of_ble_eq_true rfl) rfl ?_
  intro p e s m args below meth c Q hC hr hk hQ
  replace hC : Cx p s m args c prog_3_method_3_code 7 "PartnerStack$Maker" E := hC
  refine wi_aload_n hC 1 d_Maker_makeTiny_0 rfl rfl ?_
  refine wi_sipush hC (-16381) (by decide) d_Maker_makeTiny_1 ?_
  refine wi_iload_n hC 3 d_Maker_makeTiny_4 rfl rfl ?_
  refine wi_isub hC d_Maker_makeTiny_5 ?_
  refine wi_aload_n hC 1 d_Maker_makeTiny_6 rfl rfl ?_
  refine wg_Size_unit hC ha1 wd_166 d_Maker_makeTiny_7 ?_
  refine wi_isub hC d_Maker_makeTiny_10 ?_
  refine wi_aload_n hC 0 d_Maker_makeTiny_11 rfl rfl ?_
  refine wg_Maker_control hC ho wd_167 d_Maker_makeTiny_12 ?_
  refine k_Ctl_rounding hC  wd_168 (by decide) (Nat.le_of_ble_eq_true rfl) d_Maker_makeTiny_15 ?_
  refine wi_iload_n hC 2 d_Maker_makeTiny_18 rfl rfl ?_
  refine k_Size_round hC a2 rfl ha1 wd_169 (by decide) (Nat.le_of_ble_eq_true rfl) d_Maker_makeTiny_19 ?_
  refine wi_nmC (fun s1 e_s1 => ?_)
  refine wi_aload_n hC 1 d_Maker_makeTiny_22 rfl rfl ?_
  refine wg_Size_kept hC ha1 wd_170 d_Maker_makeTiny_23 ?_
  refine wi_bipush hC 64 (by decide) d_Maker_makeTiny_26 ?_
  refine wi_iload_n hC 3 d_Maker_makeTiny_28 rfl rfl ?_
  refine wi_isub hC d_Maker_makeTiny_29 ?_
  refine wi_lshl hC d_Maker_makeTiny_30 ?_
  refine wi_nmJ (fun v1 e_v1 => ?_)
  refine wi_lstore hC [(5, .long v1), (0, .ref o), (1, .ref a1), (2, .int (bI a2)), (3, .int a3), (4, .ref a4)] d_Maker_makeTiny_31 (by decide) rfl ?_
  refine wi_aload_n hC 1 d_Maker_makeTiny_33 rfl rfl ?_
  refine wg_Maker_control hC ho wd_167 d_Maker_makeTiny_34 ?_
  refine wi_aload_n hC 2 d_Maker_makeTiny_37 rfl rfl ?_
  refine wg_Size_isCut hC ha1 wd_171 d_Maker_makeTiny_38 ?_
  obtain ⟨Tt1, eTt1⟩ : ∃ y : Int32, y = (
          if gZ s1 13 a1 = true then
            48
          else
            0) := ⟨_, rfl⟩
  have Jt1 : ∀ (t1 : Int32), Tt1 = t1 → WS p l e { frames := 2, cells := 0, slots := 0, locals := 52 } s m args below meth c Q E 7 50 [(5, .long v1), (0, .ref o), (1, .ref a1), (2, .int (bI a2)), (3, .int a3), (4, .ref a4)] [.int t1, .ref 3] (s1, τ, q) := by
    intro t1  e_t1
    rw [eTt1] at e_t1
    refine k_Ctl_tell hC  wd_172 (by decide) (Nat.le_of_ble_eq_true rfl) d_Maker_makeTiny_50 ?_
    refine wi_nmC (fun s2 e_s2 => ?_)
    refine wi_aload hC 5 d_Maker_makeTiny_53 rfl ?_
    refine wi_iload_n hC 3 d_Maker_makeTiny_55 rfl rfl ?_
    refine wi_lload hC 0 d_Maker_makeTiny_56 rfl ?_
    refine wi_lconst hC 0 (by decide) d_Maker_makeTiny_58 ?_
    obtain ⟨Tt2, eTt2⟩ : ∃ y : Bool, y = (
            if 0 ≤ v1 then
              false
            else
              true) := ⟨_, rfl⟩
    have Jt2 : ∀ (t2 : Bool), Tt2 = t2 → WS p l e { frames := 2, cells := 0, slots := 0, locals := 52 } s m args below meth c Q E 7 68 [(5, .long v1), (0, .ref o), (1, .ref a1), (2, .int (bI a2)), (3, .int a3), (4, .ref a4)] [.int (bI t2), .int (bI a2), .ref a4] (s2, τ, q) := by
      intro t2  e_t2
      rw [eTt2] at e_t2
      refine wi_lload hC 0 d_Maker_makeTiny_68 rfl ?_
      refine k_Real_set hC a2 rfl ha4 wd_173 (by decide) (Nat.le_of_ble_eq_true rfl) d_Maker_makeTiny_70 ?_
      refine wi_nmC (fun s3 e_s3 => ?_)
      have hf : f_Maker_makeTiny σ o a1 a2 a3 a4 = s3 := by subst e_s3; subst e_t2; subst e_s2; subst e_t1; subst e_v1; subst e_s1; exact rfl
      exact wi_vret hC hr hk d_Maker_makeTiny_73 rfl (congrArg (fun z => (z, τ, q)) hf).symm hQ
    refine wi_lcmp_ge hC 67 d_Maker_makeTiny_59 d_Maker_makeTiny_60 (by decide) (fun h2 => ?_) (fun h2 => ?_)
    · skip
      refine wi_iconst hC 0 (by decide) d_Maker_makeTiny_67 ?_
      exact Jt2 false (by exact (Eq.trans eTt2 (if_pos h2)))
    · skip
      refine wi_iconst hC 1 (by decide) d_Maker_makeTiny_63 ?_
      refine wi_goto hC 68 d_Maker_makeTiny_64 (by decide) ?_
      exact Jt2 true (by exact (Eq.trans eTt2 (if_neg h2)))
  refine wi_z_eq (b := (gZ s1 13 a1)) hC 49 d_Maker_makeTiny_41 (by decide) (fun h1 => ?_) (fun h1 => ?_)
  · skip
    refine wi_iconst hC 0 (by decide) d_Maker_makeTiny_49 ?_
    exact Jt1 0 (by exact (Eq.trans eTt1 (if_neg h1)))
  · skip
    refine wi_bipush hC 48 (by decide) d_Maker_makeTiny_44 ?_
    refine wi_goto hC 50 d_Maker_makeTiny_46 (by decide) ?_
    exact Jt1 48 (by exact (Eq.trans eTt1 (if_pos h1)))
theorem k_Maker_makeTiny {p : Program} {l : Launch} {e : Env} {R : Room} {s : State} {m : MethodId} {args : Array Value} {below : List Frame} {meth : Method} {c : Code} {Q : State → Prop} {E : Ev} {nL pc index : Nat} {lv : List (Nat × Value)} {rest : List Value} {cc : ByteArray} {own : String} {σ τ : St} {q : Int64} {o : Nat} {a1 : Nat} {a3 : Int32} {a4 : Nat} (hC : Cx p s m args c cc nL own E) {x_a2 : Int32} (a2 : Bool) (hx_a2 : x_a2 = bI a2) (ho : isMaker o) (ha1 : isSize a1) (ha4 : isReal a4) (hl : Cond.methodLink own index y_Maker_makeTiny ∈ WL) (hR : 2 + 1 ≤ R.frames ∧ 8 + (7 + 11) + 52 ≤ R.locals) (hs8 : (rest.map fun v => v.category).sum ≤ 8) (d : decode cc pc = .ok (.invokevirtual index, 3)) (k : WS p l e R s m args below meth c Q E nL (pc + 3) lv rest ((f_Maker_makeTiny σ o a1 a2 a3 a4), τ, q)) : WS p l e R s m args below meth c Q E nL pc lv (.ref a4 :: .int a3 :: .int x_a2 :: .ref a1 :: .ref o :: rest) (σ, τ, q) := by
  subst hx_a2
  exact wi_callV hC (n := 4) (vs := [.ref a1, .int (bI a2), .int a3, .ref a4]) (rest := rest) o 4 (lt_Maker ho) (wc_Maker ho) rfl rfl (c_Maker_makeTiny l E σ τ q o a1 a2 a3 a4 ho ha1 ha4) (by decide +kernel) wd_174 wd_175 wd_176 wd_177 ⟨rfl, rfl⟩ rfl rfl hl hR hs8 d k
set_option maxRecDepth 100000 in
set_option maxHeartbeats 400000 in
theorem c_Maker_makeGreatest (l : Launch) (E : Ev) (σ τ : St) (q : Int64) (o : Nat) (a1 : Bool) (a2 : Int32) (a3 : Nat) (ho : isMaker o) (ha3 : isReal a3) : MF l y_Maker_makeGreatest prog_3_method_4_code 4 none { frames := 2, cells := 0, slots := 0, locals := 45 } E [.ref o, .int (bI a1), .int a2, .ref a3] (σ, τ, q) none ((f_Maker_makeGreatest σ o a1 a2 a3), τ, q) := by
  refine MF_intro (lv0 := [(0, .ref o), (1, .int (bI a1)), (2, .int a2), (3, .ref a3)]) (by decide) wd_181 (Nat.le_of_ble_eq_true rfl) rfl ?_
  intro p e s m args below meth c Q hC hr hk hQ
  replace hC : Cx p s m args c prog_3_method_4_code 4 "PartnerStack$Maker" E := hC
  refine wi_aload_n hC 0 d_Maker_makeGreatest_0 rfl rfl ?_
  refine wg_Maker_control hC ho wd_167 d_Maker_makeGreatest_1 ?_
  refine wi_bipush hC 32 (by decide) d_Maker_makeGreatest_4 ?_
  refine k_Ctl_tell hC  wd_172 (by decide) (Nat.le_of_ble_eq_true rfl) d_Maker_makeGreatest_6 ?_
  refine wi_nmC (fun s1 e_s1 => ?_)
  refine wi_aload_n hC 0 d_Maker_makeGreatest_9 rfl rfl ?_
  refine wg_Maker_control hC ho wd_167 d_Maker_makeGreatest_10 ?_
  refine wi_iload_n hC 1 d_Maker_makeGreatest_13 rfl rfl ?_
  refine k_Ctl_overBecomesInfinite hC a1 rfl wd_178 (by decide) (Nat.le_of_ble_eq_true rfl) d_Maker_makeGreatest_14 ?_
  obtain ⟨Tt1, eTt1⟩ : ∃ y : St, y = (
          if f_Ctl_overBecomesInfinite s1 a1 = true then
            let s3 : St := f_Real_setInfinite s1 a3 a1
            s3
          else
            let s2 : St := f_Real_set s1 a3 a1 32766 (jlshl (-1) (64 - a2))
            s2) := ⟨_, rfl⟩
  have Jt1 : ∀ (t1 : St), Tt1 = t1 → WS p l e { frames := 2, cells := 0, slots := 0, locals := 45 } s m args below meth c Q E 4 44 [(0, .ref o), (1, .int (bI a1)), (2, .int a2), (3, .ref a3)] [] (t1, τ, q) := by
    intro t1  e_t1
    rw [eTt1] at e_t1
    have hf : f_Maker_makeGreatest σ o a1 a2 a3 = t1 := by subst e_t1; subst e_s1; exact rfl
    exact wi_vret hC hr hk d_Maker_makeGreatest_44 rfl (congrArg (fun z => (z, τ, q)) hf).symm hQ
  refine wi_z_eq (b := (f_Ctl_overBecomesInfinite s1 a1)) hC 28 d_Maker_makeGreatest_17 (by decide) (fun h1 => ?_) (fun h1 => ?_)
  · skip
    refine wi_aload_n hC 3 d_Maker_makeGreatest_28 rfl rfl ?_
    refine wi_iload_n hC 1 d_Maker_makeGreatest_29 rfl rfl ?_
    refine wi_sipush hC 32766 (by decide) d_Maker_makeGreatest_30 ?_
    refine wi_ldc2 hC wd_179 d_Maker_makeGreatest_33 ?_
    refine wi_bipush hC 64 (by decide) d_Maker_makeGreatest_36 ?_
    refine wi_iload_n hC 2 d_Maker_makeGreatest_38 rfl rfl ?_
    refine wi_isub hC d_Maker_makeGreatest_39 ?_
    refine wi_lshl hC d_Maker_makeGreatest_40 ?_
    refine k_Real_set hC a1 rfl ha3 wd_173 (by decide) (Nat.le_of_ble_eq_true rfl) d_Maker_makeGreatest_41 ?_
    refine wi_nmC (fun s2 e_s2 => ?_)
    exact Jt1 s2 (by subst e_s2; exact (Eq.trans eTt1 (if_neg h1)))
  · skip
    refine wi_aload_n hC 3 d_Maker_makeGreatest_20 rfl rfl ?_
    refine wi_iload_n hC 1 d_Maker_makeGreatest_21 rfl rfl ?_
    refine k_Real_setInfinite hC a1 rfl ha3 wd_180 (by decide) (Nat.le_of_ble_eq_true rfl) d_Maker_makeGreatest_22 ?_
    refine wi_nmC (fun s3 e_s3 => ?_)
    refine wi_goto hC 44 d_Maker_makeGreatest_25 (by decide) ?_
    exact Jt1 s3 (by subst e_s3; exact (Eq.trans eTt1 (if_pos h1)))
theorem k_Maker_makeGreatest {p : Program} {l : Launch} {e : Env} {R : Room} {s : State} {m : MethodId} {args : Array Value} {below : List Frame} {meth : Method} {c : Code} {Q : State → Prop} {E : Ev} {nL pc index : Nat} {lv : List (Nat × Value)} {rest : List Value} {cc : ByteArray} {own : String} {σ τ : St} {q : Int64} {o : Nat} {a2 : Int32} {a3 : Nat} (hC : Cx p s m args c cc nL own E) {x_a1 : Int32} (a1 : Bool) (hx_a1 : x_a1 = bI a1) (ho : isMaker o) (ha3 : isReal a3) (hl : Cond.methodLink own index y_Maker_makeGreatest ∈ WL) (hR : 2 + 1 ≤ R.frames ∧ 8 + (4 + 11) + 45 ≤ R.locals) (hs8 : (rest.map fun v => v.category).sum ≤ 8) (d : decode cc pc = .ok (.invokevirtual index, 3)) (k : WS p l e R s m args below meth c Q E nL (pc + 3) lv rest ((f_Maker_makeGreatest σ o a1 a2 a3), τ, q)) : WS p l e R s m args below meth c Q E nL pc lv (.ref a3 :: .int a2 :: .int x_a1 :: .ref o :: rest) (σ, τ, q) := by
  subst hx_a1
  exact wi_callV hC (n := 3) (vs := [.int (bI a1), .int a2, .ref a3]) (rest := rest) o 4 (lt_Maker ho) (wc_Maker ho) rfl rfl (c_Maker_makeGreatest l E σ τ q o a1 a2 a3 ho ha3) (by decide +kernel) wd_181 wd_175 wd_182 wd_183 ⟨rfl, rfl⟩ rfl rfl hl hR hs8 d k
set_option maxRecDepth 100000 in
set_option maxHeartbeats 400000 in
theorem c_Maker_make (l : Launch) (E : Ev) (σ τ : St) (q : Int64) (o : Nat) (a1 : Nat) (a2 : Bool) (a3 : Int32) (a4 : Nat) (ho : isMaker o) (ha1 : isSize a1) (ha4 : isReal a4) : MF l y_Maker_make prog_3_method_2_code 9 none { frames := 3, cells := 0, slots := 0, locals := 78 } E [.ref o, .ref a1, .int (bI a2), .int a3, .ref a4] (σ, τ, q) none ((f_Maker_make σ o a1 a2 a3 a4), τ, q) := by
  refine MF_intro (lv0 := [(0, .ref o), (1, .ref a1), (2, .int (bI a2)), (3, .int a3), (4, .ref a4)]) (by decide) wd_191 (Nat.le_of_ble_eq_true rfl) rfl ?_
  intro p e s m args below meth c Q hC hr hk hQ
  replace hC : Cx p s m args c prog_3_method_2_code 9 "PartnerStack$Maker" E := hC
  refine wi_aload_n hC 1 d_Maker_make_0 rfl rfl ?_
  refine k_Size_isNothing hC ha1 wd_184 (by decide) (Nat.le_of_ble_eq_true rfl) d_Maker_make_1 ?_
  refine wi_z_eq (b := (f_Size_isNothing σ a1)) hC 14 d_Maker_make_4 (by decide) (fun h1 => ?_) (fun h1 => ?_)
  · skip
    refine wi_aload_n hC 1 d_Maker_make_14 rfl rfl ?_
    refine k_Size_exponent hC ha1 wd_185 (by decide) (Nat.le_of_ble_eq_true rfl) d_Maker_make_15 ?_
    refine wi_sipush hC (-16382) (by decide) d_Maker_make_18 ?_
    obtain ⟨Tt1, eTt1⟩ : ∃ y : Bool, y = (
            if (-16382) ≤ (f_Size_exponent σ a1) then
              false
            else
              true) := ⟨_, rfl⟩
    have Jt1 : ∀ (t1 : Bool), Tt1 = t1 → WS p l e { frames := 3, cells := 0, slots := 0, locals := 78 } s m args below meth c Q E 9 29 [(0, .ref o), (1, .ref a1), (2, .int (bI a2)), (3, .int a3), (4, .ref a4)] [.int (bI t1)] (σ, τ, q) := by
      intro t1  e_t1
      rw [eTt1] at e_t1
      refine wi_istore hC [(5, .int (bI t1)), (0, .ref o), (1, .ref a1), (2, .int (bI a2)), (3, .int a3), (4, .ref a4)] d_Maker_make_29 (by decide) rfl ?_
      refine wi_iload hC 0 d_Maker_make_31 rfl ?_
      have B1 : f_Maker_make σ o a1 a2 a3 a4 = f_Maker_make_b58 σ o a1 a2 a3 a4 t1 → WS p l e { frames := 3, cells := 0, slots := 0, locals := 78 } s m args below meth c Q E 9 58 [(5, .int (bI t1)), (0, .ref o), (1, .ref a1), (2, .int (bI a2)), (3, .int a3), (4, .ref a4)] [] (σ, τ, q) := by
        intro hB1
        refine wi_aload_n hC 2 d_Maker_make_58 rfl rfl ?_
        refine wi_sipush hC 128 (by decide) d_Maker_make_59 ?_
        refine wi_iload_n hC 4 d_Maker_make_62 rfl rfl ?_
        refine wi_isub hC d_Maker_make_63 ?_
        refine wi_aload_n hC 1 d_Maker_make_64 rfl rfl ?_
        refine wg_Maker_control hC ho wd_167 d_Maker_make_65 ?_
        refine k_Ctl_rounding hC  wd_168 (by decide) (Nat.le_of_ble_eq_true rfl) d_Maker_make_68 ?_
        refine wi_iload_n hC 3 d_Maker_make_71 rfl rfl ?_
        refine k_Size_round hC a2 rfl ha1 wd_169 (by decide) (Nat.le_of_ble_eq_true rfl) d_Maker_make_72 ?_
        refine wi_nmC (fun s2 e_s2 => ?_)
        refine wi_aload_n hC 2 d_Maker_make_75 rfl rfl ?_
        refine wg_Size_kept hC ha1 wd_170 d_Maker_make_76 ?_
        refine wi_bipush hC 64 (by decide) d_Maker_make_79 ?_
        refine wi_iload_n hC 4 d_Maker_make_81 rfl rfl ?_
        refine wi_isub hC d_Maker_make_82 ?_
        refine wi_lshl hC d_Maker_make_83 ?_
        refine wi_nmJ (fun v1 e_v1 => ?_)
        refine wi_lstore hC [(6, .long v1), (5, .int (bI t1)), (0, .ref o), (1, .ref a1), (2, .int (bI a2)), (3, .int a3), (4, .ref a4)] d_Maker_make_84 (by decide) rfl ?_
        refine wi_aload_n hC 3 d_Maker_make_86 rfl rfl ?_
        refine k_Size_exponent hC ha1 wd_185 (by decide) (Nat.le_of_ble_eq_true rfl) d_Maker_make_87 ?_
        refine wi_sipush hC 16383 (by decide) d_Maker_make_90 ?_
        refine wi_iadd hC d_Maker_make_93 ?_
        refine wi_nmI (fun v2 e_v2 => ?_)
        refine wi_istore hC [(8, .int v2), (6, .long v1), (5, .int (bI t1)), (0, .ref o), (1, .ref a1), (2, .int (bI a2)), (3, .int a3), (4, .ref a4)] d_Maker_make_94 (by decide) rfl ?_
        refine wi_lload hC 1 d_Maker_make_96 rfl ?_
        refine wi_lconst hC 0 (by decide) d_Maker_make_98 ?_
        obtain ⟨Tt2, eTt2⟩ : ∃ y : Int32 × Int64, y = (
                if v1 = 0 then
                  let v3 : Int32 := v2 + 1
                  (v3, (-9223372036854775808))
                else
                  (v2, v1)) := ⟨_, rfl⟩
        have Jt2 : ∀ (t2 : Int32 × Int64), Tt2 = t2 → WS p l e { frames := 3, cells := 0, slots := 0, locals := 78 } s m args below meth c Q E 9 111 [(8, .int t2.1), (6, .long t2.2), (5, .int (bI t1)), (0, .ref o), (1, .ref a1), (2, .int (bI a2)), (3, .int a3), (4, .ref a4)] [] (s2, τ, q) := by
          intro t2  e_t2
          rw [eTt2] at e_t2
          refine wi_iload hC 2 d_Maker_make_111 rfl ?_
          have B2 : ∀ (x1 : Int32) (x2 : St), f_Maker_make σ o a1 a2 a3 a4 = f_Maker_make_b178 a1 a2 a4 t2 x1 x2 → WS p l e { frames := 3, cells := 0, slots := 0, locals := 78 } s m args below meth c Q E 9 178 [(8, .int x1), (6, .long t2.2), (5, .int (bI t1)), (0, .ref o), (1, .ref a1), (2, .int (bI a2)), (3, .int a3), (4, .ref a4)] [] (x2, τ, q) := by
            intro x1 x2 hB2
            refine wi_aload_n hC 3 d_Maker_make_178 rfl rfl ?_
            refine wg_Maker_control hC ho wd_167 d_Maker_make_179 ?_
            refine wi_aload_n hC 4 d_Maker_make_182 rfl rfl ?_
            refine wg_Size_isCut hC ha1 wd_171 d_Maker_make_183 ?_
            obtain ⟨Tt3, eTt3⟩ : ∃ y : Int32, y = (
                    if gZ x2 13 a1 = true then
                      32
                    else
                      0) := ⟨_, rfl⟩
            have Jt3 : ∀ (t3 : Int32), Tt3 = t3 → WS p l e { frames := 3, cells := 0, slots := 0, locals := 78 } s m args below meth c Q E 9 195 [(8, .int x1), (6, .long t2.2), (5, .int (bI t1)), (0, .ref o), (1, .ref a1), (2, .int (bI a2)), (3, .int a3), (4, .ref a4)] [.int t3, .ref 3] (x2, τ, q) := by
              intro t3  e_t3
              rw [eTt3] at e_t3
              refine k_Ctl_tell hC  wd_172 (by decide) (Nat.le_of_ble_eq_true rfl) d_Maker_make_195 ?_
              refine wi_nmC (fun s6 e_s6 => ?_)
              refine wi_aload hC 7 d_Maker_make_198 rfl ?_
              refine wi_iload_n hC 5 d_Maker_make_200 rfl rfl ?_
              refine wi_iload hC 0 d_Maker_make_201 rfl ?_
              refine wi_lload hC 1 d_Maker_make_203 rfl ?_
              refine k_Real_set hC a2 rfl ha4 wd_173 (by decide) (Nat.le_of_ble_eq_true rfl) d_Maker_make_205 ?_
              refine wi_nmC (fun s7 e_s7 => ?_)
              have hf : f_Maker_make σ o a1 a2 a3 a4 = s7 := by subst e_s7; subst e_s6; subst e_t3; exact hB2
              exact wi_vret hC hr hk d_Maker_make_208 rfl (congrArg (fun z => (z, τ, q)) hf).symm hQ
            refine wi_z_eq (b := (gZ x2 13 a1)) hC 194 d_Maker_make_186 (by decide) (fun h9 => ?_) (fun h9 => ?_)
            · skip
              refine wi_iconst hC 0 (by decide) d_Maker_make_194 ?_
              exact Jt3 0 (by exact (Eq.trans eTt3 (if_neg h9)))
            · skip
              refine wi_bipush hC 32 (by decide) d_Maker_make_189 ?_
              refine wi_goto hC 195 d_Maker_make_191 (by decide) ?_
              exact Jt3 32 (by exact (Eq.trans eTt3 (if_pos h9)))
          refine wi_z_eq (b := t1) hC 134 d_Maker_make_113 (by decide) (fun h6 => ?_) (fun h6 => ?_)
          · skip
            refine wi_iload hC 0 d_Maker_make_134 rfl ?_
            refine wi_sipush hC 32767 (by decide) d_Maker_make_136 ?_
            refine wi_icmp_lt hC 178 d_Maker_make_139 (by decide) (fun h7 => ?_) (fun h7 => ?_)
            · skip
              exact B2 t2.1 s2  (by subst e_t2; subst e_v2; subst e_v1; subst e_s2; exact (Eq.trans hB1 (Eq.trans (if_neg h6) (if_pos h7))))
            · skip
              refine wi_aload_n hC 3 d_Maker_make_142 rfl rfl ?_
              refine wg_Maker_control hC ho wd_167 d_Maker_make_143 ?_
              refine wi_bipush hC 8 (by decide) d_Maker_make_146 ?_
              refine k_Ctl_tell hC  wd_172 (by decide) (Nat.le_of_ble_eq_true rfl) d_Maker_make_148 ?_
              refine wi_nmC (fun s3 e_s3 => ?_)
              refine wi_aload_n hC 3 d_Maker_make_151 rfl rfl ?_
              refine wg_Maker_control hC ho wd_167 d_Maker_make_152 ?_
              refine wi_bipush hC 8 (by decide) d_Maker_make_155 ?_
              refine k_Ctl_masks hC  wd_186 (by decide) (Nat.le_of_ble_eq_true rfl) d_Maker_make_157 ?_
              refine wi_z_eq (b := (f_Ctl_masks s3 8)) hC 172 d_Maker_make_160 (by decide) (fun h8 => ?_) (fun h8 => ?_)
              · skip
                obtain ⟨v4, e_v4⟩ : ∃ y : Int32, t2.1 + (-24576) = y := ⟨_, rfl⟩
                refine wi_iincW hC 0 v4 [(8, .int v4), (6, .long t2.2), (5, .int (bI t1)), (0, .ref o), (1, .ref a1), (2, .int (bI a2)), (3, .int a3), (4, .ref a4)] d_Maker_make_172 rfl (by rw [← e_v4]; rfl) (by decide) rfl ?_
                exact B2 v4 s3  (by subst e_v4; subst e_s3; subst e_t2; subst e_v2; subst e_v1; subst e_s2; exact (Eq.trans hB1 (Eq.trans (if_neg h6) (Eq.trans (if_neg h7) (if_neg h8)))))
              · skip
                refine wi_aload_n hC 3 d_Maker_make_163 rfl rfl ?_
                refine wi_iload_n hC 5 d_Maker_make_164 rfl rfl ?_
                refine wi_iload_n hC 6 d_Maker_make_165 rfl rfl ?_
                refine wi_aload hC 7 d_Maker_make_166 rfl ?_
                refine k_Maker_makeGreatest hC a2 rfl ho ha4 wd_189 (by decide) (Nat.le_of_ble_eq_true rfl) d_Maker_make_168 ?_
                refine wi_nmC (fun s4 e_s4 => ?_)
                have hf : f_Maker_make σ o a1 a2 a3 a4 = s4 := by subst e_s4; subst e_s3; subst e_t2; subst e_v2; subst e_v1; subst e_s2; exact (Eq.trans hB1 (Eq.trans (if_neg h6) (Eq.trans (if_neg h7) (if_pos h8))))
                exact wi_vret hC hr hk d_Maker_make_171 rfl (congrArg (fun z => (z, τ, q)) hf).symm hQ
          · skip
            refine wi_aload_n hC 3 d_Maker_make_116 rfl rfl ?_
            refine wg_Maker_control hC ho wd_167 d_Maker_make_117 ?_
            refine wi_bipush hC 16 (by decide) d_Maker_make_120 ?_
            refine k_Ctl_tell hC  wd_172 (by decide) (Nat.le_of_ble_eq_true rfl) d_Maker_make_122 ?_
            refine wi_nmC (fun s5 e_s5 => ?_)
            obtain ⟨v5, e_v5⟩ : ∃ y : Int32, t2.1 + 24576 = y := ⟨_, rfl⟩
            refine wi_iincW hC 0 v5 [(8, .int v5), (6, .long t2.2), (5, .int (bI t1)), (0, .ref o), (1, .ref a1), (2, .int (bI a2)), (3, .int a3), (4, .ref a4)] d_Maker_make_125 rfl (by rw [← e_v5]; rfl) (by decide) rfl ?_
            refine wi_goto hC 178 d_Maker_make_131 (by decide) ?_
            exact B2 v5 s5  (by subst e_v5; subst e_s5; subst e_t2; subst e_v2; subst e_v1; subst e_s2; exact (Eq.trans hB1 (if_pos h6)))
        refine wi_lcmp_ne hC 111 d_Maker_make_99 d_Maker_make_100 (by decide) (fun h5 => ?_) (fun h5 => ?_)
        · skip
          exact Jt2 (v2, v1) (by exact (Eq.trans eTt2 (if_neg h5)))
        · skip
          refine wi_ldc2 hC wd_188 d_Maker_make_103 ?_
          refine wi_lstore hC [(6, .long (-9223372036854775808)), (8, .int v2), (5, .int (bI t1)), (0, .ref o), (1, .ref a1), (2, .int (bI a2)), (3, .int a3), (4, .ref a4)] d_Maker_make_106 (by decide) rfl ?_
          obtain ⟨v3, e_v3⟩ : ∃ y : Int32, v2 + 1 = y := ⟨_, rfl⟩
          refine wi_iinc hC 1 v3 [(8, .int v3), (6, .long (-9223372036854775808)), (5, .int (bI t1)), (0, .ref o), (1, .ref a1), (2, .int (bI a2)), (3, .int a3), (4, .ref a4)] d_Maker_make_108 rfl (by rw [← e_v3]; rfl) (by decide) rfl ?_
          exact Jt2 (v3, (-9223372036854775808)) (by subst e_v3; exact (Eq.trans eTt2 (if_pos h5)))
      refine wi_z_eq (b := t1) hC 58 d_Maker_make_33 (by decide) (fun h3 => ?_) (fun h3 => ?_)
      · skip
        exact B1   (by subst e_t1; exact (Eq.trans (if_neg h1) (if_neg h3)))
      · skip
        refine wi_aload_n hC 1 d_Maker_make_36 rfl rfl ?_
        refine wg_Maker_control hC ho wd_167 d_Maker_make_37 ?_
        refine wi_bipush hC 16 (by decide) d_Maker_make_40 ?_
        refine k_Ctl_masks hC  wd_186 (by decide) (Nat.le_of_ble_eq_true rfl) d_Maker_make_42 ?_
        refine wi_z_eq (b := (f_Ctl_masks σ 16)) hC 58 d_Maker_make_45 (by decide) (fun h4 => ?_) (fun h4 => ?_)
        · skip
          exact B1   (by subst e_t1; exact (Eq.trans (if_neg h1) (Eq.trans (if_pos h3) (if_neg h4))))
        · skip
          refine wi_aload_n hC 1 d_Maker_make_48 rfl rfl ?_
          refine wi_aload_n hC 2 d_Maker_make_49 rfl rfl ?_
          refine wi_iload_n hC 3 d_Maker_make_50 rfl rfl ?_
          refine wi_iload_n hC 4 d_Maker_make_51 rfl rfl ?_
          refine wi_aload hC 5 d_Maker_make_52 rfl ?_
          refine k_Maker_makeTiny hC a2 rfl ho ha1 ha4 wd_187 (by decide) (Nat.le_of_ble_eq_true rfl) d_Maker_make_54 ?_
          refine wi_nmC (fun s1 e_s1 => ?_)
          have hf : f_Maker_make σ o a1 a2 a3 a4 = s1 := by subst e_s1; subst e_t1; exact (Eq.trans (if_neg h1) (Eq.trans (if_pos h3) (if_pos h4)))
          exact wi_vret hC hr hk d_Maker_make_57 rfl (congrArg (fun z => (z, τ, q)) hf).symm hQ
    refine wi_icmp_ge hC 28 d_Maker_make_21 (by decide) (fun h2 => ?_) (fun h2 => ?_)
    · skip
      refine wi_iconst hC 0 (by decide) d_Maker_make_28 ?_
      exact Jt1 false (by exact (Eq.trans eTt1 (if_pos h2)))
    · skip
      refine wi_iconst hC 1 (by decide) d_Maker_make_24 ?_
      refine wi_goto hC 29 d_Maker_make_25 (by decide) ?_
      exact Jt1 true (by exact (Eq.trans eTt1 (if_neg h2)))
  · skip
    refine wi_aload hC 4 d_Maker_make_7 rfl ?_
    refine wi_iload_n hC 2 d_Maker_make_9 rfl rfl ?_
    refine k_Real_setZero hC a2 rfl ha4 wd_190 (by decide) (Nat.le_of_ble_eq_true rfl) d_Maker_make_10 ?_
    refine wi_nmC (fun s8 e_s8 => ?_)
    have hf : f_Maker_make σ o a1 a2 a3 a4 = s8 := by subst e_s8; exact (if_pos h1)
    exact wi_vret hC hr hk d_Maker_make_13 rfl (congrArg (fun z => (z, τ, q)) hf).symm hQ
theorem k_Maker_make {p : Program} {l : Launch} {e : Env} {R : Room} {s : State} {m : MethodId} {args : Array Value} {below : List Frame} {meth : Method} {c : Code} {Q : State → Prop} {E : Ev} {nL pc index : Nat} {lv : List (Nat × Value)} {rest : List Value} {cc : ByteArray} {own : String} {σ τ : St} {q : Int64} {o : Nat} {a1 : Nat} {a3 : Int32} {a4 : Nat} (hC : Cx p s m args c cc nL own E) {x_a2 : Int32} (a2 : Bool) (hx_a2 : x_a2 = bI a2) (ho : isMaker o) (ha1 : isSize a1) (ha4 : isReal a4) (hl : Cond.methodLink own index y_Maker_make ∈ WL) (hR : 3 + 1 ≤ R.frames ∧ 8 + (9 + 11) + 78 ≤ R.locals) (hs8 : (rest.map fun v => v.category).sum ≤ 8) (d : decode cc pc = .ok (.invokevirtual index, 3)) (k : WS p l e R s m args below meth c Q E nL (pc + 3) lv rest ((f_Maker_make σ o a1 a2 a3 a4), τ, q)) : WS p l e R s m args below meth c Q E nL pc lv (.ref a4 :: .int a3 :: .int x_a2 :: .ref a1 :: .ref o :: rest) (σ, τ, q) := by
  subst hx_a2
  exact wi_callV hC (n := 4) (vs := [.ref a1, .int (bI a2), .int a3, .ref a4]) (rest := rest) o 4 (lt_Maker ho) (wc_Maker ho) rfl rfl (c_Maker_make l E σ τ q o a1 a2 a3 a4 ho ha1 ha4) (by decide +kernel) wd_191 wd_175 wd_192 wd_193 ⟨rfl, rfl⟩ rfl rfl hl hR hs8 d k
