set_option maxRecDepth 100000 in
set_option maxHeartbeats 400000 in
theorem c_Size_normalise (l : Launch) (E : Ev) (σ τ : St) (q : Int64) (o : Nat) (ho : isSize o) : MF l y_Size_normalise prog_8_method_6_code 2 none { frames := 0, cells := 0, slots := 0, locals := 0 } E [.ref o] (σ, τ, q) none ((f_Size_normalise σ o), τ, q) := by
  refine MF_intro (lv0 := [(0, .ref o)]) (by decide) wd_62 (Nat.le_of_ble_eq_true rfl) rfl ?_
  intro p e s m args below meth c Q hC hr hk hQ
  replace hC : Cx p s m args c prog_8_method_6_code 2 "PartnerStack$Size" E := hC
  refine wi_aload_n hC 0 d_Size_normalise_0 rfl rfl ?_
  refine wg_Size_high hC ho wd_59 d_Size_normalise_1 ?_
  refine wi_lconst hC 0 (by decide) d_Size_normalise_4 ?_
  obtain ⟨Tt1, eTt1⟩ : ∃ y : St, y = (
          if gJ σ 8 o = 0 then
            let s1 : St := sJ σ 8 o (gJ σ 9 o)
            let s2 : St := sJ s1 9 o 0
            let s3 : St := sI s2 11 o ((gI s2 11 o) - 64)
            s3
          else
            σ) := ⟨_, rfl⟩
  have Jt1 : ∀ (t1 : St), Tt1 = t1 → WS p l e { frames := 0, cells := 0, slots := 0, locals := 0 } s m args below meth c Q E 2 33 [(0, .ref o)] [] (t1, τ, q) := by
    intro t1  e_t1
    rw [eTt1] at e_t1
    refine wi_aload_n hC 0 d_Size_normalise_33 rfl rfl ?_
    refine wg_Size_high hC ho wd_59 d_Size_normalise_34 ?_
    refine wi_lconst hC 0 (by decide) d_Size_normalise_37 ?_
    refine wi_lcmp_ne hC 50 d_Size_normalise_38 d_Size_normalise_39 (by decide) (fun h2 => ?_) (fun h2 => ?_)
    · skip
      refine wi_bipush hC 32 (by decide) d_Size_normalise_50 ?_
      refine wi_istore_n hC [(1, .int 32), (0, .ref o)] d_Size_normalise_52 rfl (by decide) rfl ?_
      refine wi_loop ((b_Size_normalise_53 o)) (fun t3 => True) (fun t3 => [(1, .int t3.1), (0, .ref o)]) (fun t3 => (t3.2, τ, q)) 118 ?_ (fun _ _ _ _ => trivial) (33) (32, t1) trivial (hv_halt (b := (b_Size_normalise_53 o)) (fun t => t.1) (st_b_Size_normalise_53 o) 33 (by decide) (32, t1) (by show (32 : Int32).toInt < 33; decide)) ?_
      · intro t3 hi_t3 hc_t3 hx_t3
        refine wi_iload_n hC 0 d_Size_normalise_53 rfl rfl ?_
        refine wi_if_le hC 118 d_Size_normalise_54 (by decide) (fun h3 => ?_) (fun h3 => ?_)
        · skip
          exact hx_t3 (t3.1, t3.2) (by exact (if_pos h3))
        · skip
          refine wi_aload_n hC 1 d_Size_normalise_57 rfl rfl ?_
          refine wg_Size_high hC ho wd_59 d_Size_normalise_58 ?_
          refine wi_bipush hC 64 (by decide) d_Size_normalise_61 ?_
          refine wi_iload_n hC 0 d_Size_normalise_63 rfl rfl ?_
          refine wi_isub hC d_Size_normalise_64 ?_
          refine wi_lushr hC d_Size_normalise_65 ?_
          refine wi_lconst hC 0 (by decide) d_Size_normalise_66 ?_
          obtain ⟨Tt4, eTt4⟩ : ∃ y : St, y = (
                  if jlushr (gJ t3.2 8 o) (64 - t3.1) = 0 then
                    let s4 : St := sJ t3.2 8 o ((jlshl (gJ t3.2 8 o) t3.1) ||| (jlushr (gJ t3.2 9 o) (64 - t3.1)))
                    let s5 : St := sJ s4 9 o (jlshl (gJ s4 9 o) t3.1)
                    let s6 : St := sI s5 11 o ((gI s5 11 o) - t3.1)
                    s6
                  else
                    t3.2) := ⟨_, rfl⟩
          have Jt4 : ∀ (t4 : St), Tt4 = t4 → WS p l e { frames := 0, cells := 0, slots := 0, locals := 0 } s m args below meth c Q E 2 111 [(1, .int t3.1), (0, .ref o)] [] (t4, τ, q) := by
            intro t4  e_t4
            rw [eTt4] at e_t4
            refine wi_iload_n hC 0 d_Size_normalise_111 rfl rfl ?_
            refine wi_iconst hC 1 (by decide) d_Size_normalise_112 ?_
            refine wi_ishr hC d_Size_normalise_113 ?_
            refine wi_nmI (fun v1 e_v1 => ?_)
            refine wi_istore_n hC [(1, .int v1), (0, .ref o)] d_Size_normalise_114 rfl (by decide) rfl ?_
            refine wi_goto hC 53 d_Size_normalise_115 (by decide) ?_
            exact hc_t3 (v1, t4) (by subst e_v1; subst e_t4; exact (if_neg h3))
          refine wi_lcmp_ne hC 111 d_Size_normalise_67 d_Size_normalise_68 (by decide) (fun h4 => ?_) (fun h4 => ?_)
          · skip
            exact Jt4 t3.2 (by exact (Eq.trans eTt4 (if_neg h4)))
          · skip
            refine wi_aload_n hC 1 d_Size_normalise_71 rfl rfl ?_
            refine wi_aload_n hC 1 d_Size_normalise_72 rfl rfl ?_
            refine wg_Size_high hC ho wd_59 d_Size_normalise_73 ?_
            refine wi_iload_n hC 0 d_Size_normalise_76 rfl rfl ?_
            refine wi_lshl hC d_Size_normalise_77 ?_
            refine wi_aload_n hC 1 d_Size_normalise_78 rfl rfl ?_
            refine wg_Size_low hC ho wd_60 d_Size_normalise_79 ?_
            refine wi_bipush hC 64 (by decide) d_Size_normalise_82 ?_
            refine wi_iload_n hC 0 d_Size_normalise_84 rfl rfl ?_
            refine wi_isub hC d_Size_normalise_85 ?_
            refine wi_lushr hC d_Size_normalise_86 ?_
            refine wi_lor hC d_Size_normalise_87 ?_
            refine wp_Size_high hC ho wd_59 d_Size_normalise_88 ?_
            refine wi_nmC (fun s4 e_s4 => ?_)
            refine wi_aload_n hC 1 d_Size_normalise_91 rfl rfl ?_
            refine wi_dup hC rfl d_Size_normalise_92 ?_
            refine wg_Size_low hC ho wd_60 d_Size_normalise_93 ?_
            refine wi_iload_n hC 0 d_Size_normalise_96 rfl rfl ?_
            refine wi_lshl hC d_Size_normalise_97 ?_
            refine wp_Size_low hC ho wd_60 d_Size_normalise_98 ?_
            refine wi_nmC (fun s5 e_s5 => ?_)
            refine wi_aload_n hC 1 d_Size_normalise_101 rfl rfl ?_
            refine wi_dup hC rfl d_Size_normalise_102 ?_
            refine wg_Size_unit hC ho wd_61 d_Size_normalise_103 ?_
            refine wi_iload_n hC 0 d_Size_normalise_106 rfl rfl ?_
            refine wi_isub hC d_Size_normalise_107 ?_
            refine wp_Size_unit hC ho wd_61 d_Size_normalise_108 ?_
            refine wi_nmC (fun s6 e_s6 => ?_)
            exact Jt4 s6 (by subst e_s6; subst e_s5; subst e_s4; exact (Eq.trans eTt4 (if_pos h4)))
      obtain ⟨t2, e_t2⟩ : ∃ y : Int32 × St, lpn ((b_Size_normalise_53 o)) (33) (32, t1) = y := ⟨_, rfl⟩
      rw [e_t2]
      have hf : f_Size_normalise σ o = t2.2 := by subst e_t2; subst e_t1; exact (if_neg h2)
      exact wi_vret hC hr hk d_Size_normalise_118 rfl (congrArg (fun z => (z, τ, q)) hf).symm hQ
    · skip
      refine wi_aload_n hC 0 d_Size_normalise_42 rfl rfl ?_
      refine wi_sipush hC (-17000) (by decide) d_Size_normalise_43 ?_
      refine wp_Size_unit hC ho wd_61 d_Size_normalise_46 ?_
      refine wi_nmC (fun s7 e_s7 => ?_)
      have hf : f_Size_normalise σ o = s7 := by subst e_s7; subst e_t1; exact (if_pos h2)
      exact wi_vret hC hr hk d_Size_normalise_49 rfl (congrArg (fun z => (z, τ, q)) hf).symm hQ
  refine wi_lcmp_ne hC 33 d_Size_normalise_5 d_Size_normalise_6 (by decide) (fun h1 => ?_) (fun h1 => ?_)
  · skip
    exact Jt1 σ (by exact (Eq.trans eTt1 (if_neg h1)))
  · skip
    refine wi_aload_n hC 0 d_Size_normalise_9 rfl rfl ?_
    refine wi_aload_n hC 0 d_Size_normalise_10 rfl rfl ?_
    refine wg_Size_low hC ho wd_60 d_Size_normalise_11 ?_
    refine wp_Size_high hC ho wd_59 d_Size_normalise_14 ?_
    refine wi_nmC (fun s1 e_s1 => ?_)
    refine wi_aload_n hC 0 d_Size_normalise_17 rfl rfl ?_
    refine wi_lconst hC 0 (by decide) d_Size_normalise_18 ?_
    refine wp_Size_low hC ho wd_60 d_Size_normalise_19 ?_
    refine wi_nmC (fun s2 e_s2 => ?_)
    refine wi_aload_n hC 0 d_Size_normalise_22 rfl rfl ?_
    refine wi_dup hC rfl d_Size_normalise_23 ?_
    refine wg_Size_unit hC ho wd_61 d_Size_normalise_24 ?_
    refine wi_bipush hC 64 (by decide) d_Size_normalise_27 ?_
    refine wi_isub hC d_Size_normalise_29 ?_
    refine wp_Size_unit hC ho wd_61 d_Size_normalise_30 ?_
    refine wi_nmC (fun s3 e_s3 => ?_)
    exact Jt1 s3 (by subst e_s3; subst e_s2; subst e_s1; exact (Eq.trans eTt1 (if_pos h1)))
theorem k_Size_normalise {p : Program} {l : Launch} {e : Env} {R : Room} {s : State} {m : MethodId} {args : Array Value} {below : List Frame} {meth : Method} {c : Code} {Q : State → Prop} {E : Ev} {nL pc index : Nat} {lv : List (Nat × Value)} {rest : List Value} {cc : ByteArray} {own : String} {σ τ : St} {q : Int64} {o : Nat} (hC : Cx p s m args c cc nL own E)  (ho : isSize o) (hl : Cond.methodLink own index y_Size_normalise ∈ WL) (hR : 0 + 1 ≤ R.frames ∧ 8 + (2 + 11) + 0 ≤ R.locals) (hs8 : (rest.map fun v => v.category).sum ≤ 8) (d : decode cc pc = .ok (.invokevirtual index, 3)) (k : WS p l e R s m args below meth c Q E nL (pc + 3) lv rest ((f_Size_normalise σ o), τ, q)) : WS p l e R s m args below meth c Q E nL pc lv (.ref o :: rest) (σ, τ, q) := by
  exact wi_callV hC (n := 0) (vs := []) (rest := rest) o 3 (lt_Size ho) (wc_Size ho) rfl rfl (c_Size_normalise l E σ τ q o ho) (by decide +kernel) wd_62 wd_63 wd_64 wd_65 ⟨rfl, rfl⟩ rfl rfl hl hR hs8 d k
set_option maxRecDepth 100000 in
set_option maxHeartbeats 400000 in
theorem c_Size_loadTimes (l : Launch) (E : Ev) (σ τ : St) (q : Int64) (o : Nat) (a1 : Int64) (a2 : Int32) (ho : isSize o) : MF l y_Size_loadTimes prog_8_method_5_code 4 none { frames := 1, cells := 0, slots := 0, locals := 21 } E [.ref o, .long a1, .int a2] (σ, τ, q) none ((f_Size_loadTimes σ o a1 a2), τ, q) := by
  refine MF_intro (lv0 := [(0, .ref o), (1, .long a1), (3, .int a2)]) (by decide) wd_68 (Nat.le_of_ble_eq_true rfl) rfl ?_
  intro p e s m args below meth c Q hC hr hk hQ
  replace hC : Cx p s m args c prog_8_method_5_code 4 "PartnerStack$Size" E := hC
  refine wi_aload_n hC 0 d_Size_loadTimes_0 rfl rfl ?_
  refine wi_lload_n hC 1 d_Size_loadTimes_1 rfl rfl ?_
  refine wp_Size_high hC ho wd_59 d_Size_loadTimes_2 ?_
  refine wi_nmC (fun s1 e_s1 => ?_)
  refine wi_aload_n hC 0 d_Size_loadTimes_5 rfl rfl ?_
  refine wi_lconst hC 0 (by decide) d_Size_loadTimes_6 ?_
  refine wp_Size_low hC ho wd_60 d_Size_loadTimes_7 ?_
  refine wi_nmC (fun s2 e_s2 => ?_)
  refine wi_aload_n hC 0 d_Size_loadTimes_10 rfl rfl ?_
  refine wi_iconst hC 0 (by decide) d_Size_loadTimes_11 ?_
  refine wp_Size_more hC ho false rfl wd_66 d_Size_loadTimes_12 ?_
  refine wi_nmC (fun s3 e_s3 => ?_)
  refine wi_aload_n hC 0 d_Size_loadTimes_15 rfl rfl ?_
  refine wi_iload_n hC 2 d_Size_loadTimes_16 rfl rfl ?_
  refine wi_bipush hC 64 (by decide) d_Size_loadTimes_17 ?_
  refine wi_isub hC d_Size_loadTimes_19 ?_
  refine wp_Size_unit hC ho wd_61 d_Size_loadTimes_20 ?_
  refine wi_nmC (fun s4 e_s4 => ?_)
  refine wi_aload_n hC 0 d_Size_loadTimes_23 rfl rfl ?_
  refine k_Size_normalise hC ho wd_67 (by decide) (Nat.le_of_ble_eq_true rfl) d_Size_loadTimes_24 ?_
  refine wi_nmC (fun s5 e_s5 => ?_)
  have hf : f_Size_loadTimes σ o a1 a2 = s5 := by subst e_s5; subst e_s4; subst e_s3; subst e_s2; subst e_s1; exact rfl
  exact wi_vret hC hr hk d_Size_loadTimes_27 rfl (congrArg (fun z => (z, τ, q)) hf).symm hQ
theorem k_Size_loadTimes {p : Program} {l : Launch} {e : Env} {R : Room} {s : State} {m : MethodId} {args : Array Value} {below : List Frame} {meth : Method} {c : Code} {Q : State → Prop} {E : Ev} {nL pc index : Nat} {lv : List (Nat × Value)} {rest : List Value} {cc : ByteArray} {own : String} {σ τ : St} {q : Int64} {o : Nat} {a1 : Int64} {a2 : Int32} (hC : Cx p s m args c cc nL own E)  (ho : isSize o) (hl : Cond.methodLink own index y_Size_loadTimes ∈ WL) (hR : 1 + 1 ≤ R.frames ∧ 8 + (4 + 11) + 21 ≤ R.locals) (hs8 : (rest.map fun v => v.category).sum ≤ 8) (d : decode cc pc = .ok (.invokevirtual index, 3)) (k : WS p l e R s m args below meth c Q E nL (pc + 3) lv rest ((f_Size_loadTimes σ o a1 a2), τ, q)) : WS p l e R s m args below meth c Q E nL pc lv (.int a2 :: .long a1 :: .ref o :: rest) (σ, τ, q) := by
  exact wi_callV hC (n := 2) (vs := [.long a1, .int a2]) (rest := rest) o 3 (lt_Size ho) (wc_Size ho) rfl rfl (c_Size_loadTimes l E σ τ q o a1 a2 ho) (by decide +kernel) wd_68 wd_63 wd_69 wd_70 ⟨rfl, rfl⟩ rfl rfl hl hR hs8 d k
set_option maxRecDepth 100000 in
set_option maxHeartbeats 400000 in
theorem c_Size_exponent (l : Launch) (E : Ev) (σ τ : St) (q : Int64) (o : Nat) (ho : isSize o) : MF l y_Size_exponent prog_8_method_3_code 1 (some .int) { frames := 0, cells := 0, slots := 0, locals := 0 } E [.ref o] (σ, τ, q) (some (.int (f_Size_exponent σ o))) (σ, τ, q) := by
  refine MF_intro (lv0 := [(0, .ref o)]) (by decide) wd_71 (Nat.le_of_ble_eq_true rfl) rfl ?_
  intro p e s m args below meth c Q hC hr hk hQ
  replace hC : Cx p s m args c prog_8_method_3_code 1 "PartnerStack$Size" E := hC
  refine wi_aload_n hC 0 d_Size_exponent_0 rfl rfl ?_
  refine wg_Size_unit hC ho wd_61 d_Size_exponent_1 ?_
  refine wi_bipush hC 127 (by decide) d_Size_exponent_4 ?_
  refine wi_iadd hC d_Size_exponent_6 ?_
  have hf : f_Size_exponent σ o = (gI σ 11 o) + 127 := by exact rfl
  exact wi_iret hC hr hk d_Size_exponent_7 (congrArg (fun z => some (Value.int z)) hf) rfl hQ
theorem k_Size_exponent {p : Program} {l : Launch} {e : Env} {R : Room} {s : State} {m : MethodId} {args : Array Value} {below : List Frame} {meth : Method} {c : Code} {Q : State → Prop} {E : Ev} {nL pc index : Nat} {lv : List (Nat × Value)} {rest : List Value} {cc : ByteArray} {own : String} {σ τ : St} {q : Int64} {o : Nat} (hC : Cx p s m args c cc nL own E)  (ho : isSize o) (hl : Cond.methodLink own index y_Size_exponent ∈ WL) (hR : 0 + 1 ≤ R.frames ∧ 8 + (1 + 11) + 0 ≤ R.locals) (hs8 : (rest.map fun v => v.category).sum ≤ 8) (d : decode cc pc = .ok (.invokevirtual index, 3)) (k : WS p l e R s m args below meth c Q E nL (pc + 3) lv ((.int (f_Size_exponent σ o)) :: rest) (σ, τ, q)) : WS p l e R s m args below meth c Q E nL pc lv (.ref o :: rest) (σ, τ, q) := by
  exact wi_callV hC (n := 0) (vs := []) (rest := rest) o 3 (lt_Size ho) (wc_Size ho) rfl rfl (c_Size_exponent l E σ τ q o ho) (by decide +kernel) wd_71 wd_63 wd_72 wd_73 ⟨rfl, rfl⟩ rfl rfl hl hR hs8 d k
set_option maxRecDepth 100000 in
set_option maxHeartbeats 400000 in
theorem c_Size_load (l : Launch) (E : Ev) (σ τ : St) (q : Int64) (o : Nat) (a1 : Nat) (ho : isSize o) (ha1 : isReal a1) : MF l y_Size_load prog_8_method_4_code 2 none { frames := 2, cells := 0, slots := 0, locals := 44 } E [.ref o, .ref a1] (σ, τ, q) none ((f_Size_load σ o a1), τ, q) := by
  refine MF_intro (lv0 := [(0, .ref o), (1, .ref a1)]) (by decide) wd_77 (Nat.le_of_ble_eq_true rfl) rfl ?_
  intro p e s m args below meth c Q hC hr hk hQ
  replace hC : Cx p s m args c prog_8_method_4_code 2 "PartnerStack$Size" E := hC
  refine wi_aload_n hC 0 d_Size_load_0 rfl rfl ?_
  refine wi_aload_n hC 1 d_Size_load_1 rfl rfl ?_
  refine wg_Real_fraction hC ha1 wd_74 d_Size_load_2 ?_
  refine wi_aload_n hC 1 d_Size_load_5 rfl rfl ?_
  refine wg_Real_power hC ha1 wd_75 d_Size_load_6 ?_
  obtain ⟨Tt1, eTt1⟩ : ∃ y : Int32, y = (
          if gI σ 16 a1 = 0 then
            1
          else
            gI σ 16 a1) := ⟨_, rfl⟩
  have Jt1 : ∀ (t1 : Int32), Tt1 = t1 → WS p l e { frames := 2, cells := 0, slots := 0, locals := 44 } s m args below meth c Q E 2 20 [(0, .ref o), (1, .ref a1)] [.int t1, .long (gJ σ 17 a1), .ref o] (σ, τ, q) := by
    intro t1  e_t1
    rw [eTt1] at e_t1
    refine wi_sipush hC 16446 (by decide) d_Size_load_20 ?_
    refine wi_isub hC d_Size_load_23 ?_
    refine k_Size_loadTimes hC ho wd_76 (by decide) (Nat.le_of_ble_eq_true rfl) d_Size_load_24 ?_
    refine wi_nmC (fun s1 e_s1 => ?_)
    have hf : f_Size_load σ o a1 = s1 := by subst e_s1; subst e_t1; exact rfl
    exact wi_vret hC hr hk d_Size_load_27 rfl (congrArg (fun z => (z, τ, q)) hf).symm hQ
  refine wi_if_ne hC 16 d_Size_load_9 (by decide) (fun h1 => ?_) (fun h1 => ?_)
  · skip
    refine wi_aload_n hC 1 d_Size_load_16 rfl rfl ?_
    refine wg_Real_power hC ha1 wd_75 d_Size_load_17 ?_
    exact Jt1 (gI σ 16 a1) (by exact (Eq.trans eTt1 (if_neg h1)))
  · skip
    refine wi_iconst hC 1 (by decide) d_Size_load_12 ?_
    refine wi_goto hC 20 d_Size_load_13 (by decide) ?_
    exact Jt1 1 (by exact (Eq.trans eTt1 (if_pos h1)))
theorem k_Size_load {p : Program} {l : Launch} {e : Env} {R : Room} {s : State} {m : MethodId} {args : Array Value} {below : List Frame} {meth : Method} {c : Code} {Q : State → Prop} {E : Ev} {nL pc index : Nat} {lv : List (Nat × Value)} {rest : List Value} {cc : ByteArray} {own : String} {σ τ : St} {q : Int64} {o : Nat} {a1 : Nat} (hC : Cx p s m args c cc nL own E)  (ho : isSize o) (ha1 : isReal a1) (hl : Cond.methodLink own index y_Size_load ∈ WL) (hR : 2 + 1 ≤ R.frames ∧ 8 + (2 + 11) + 44 ≤ R.locals) (hs8 : (rest.map fun v => v.category).sum ≤ 8) (d : decode cc pc = .ok (.invokevirtual index, 3)) (k : WS p l e R s m args below meth c Q E nL (pc + 3) lv rest ((f_Size_load σ o a1), τ, q)) : WS p l e R s m args below meth c Q E nL pc lv (.ref a1 :: .ref o :: rest) (σ, τ, q) := by
  exact wi_callV hC (n := 1) (vs := [.ref a1]) (rest := rest) o 3 (lt_Size ho) (wc_Size ho) rfl rfl (c_Size_load l E σ τ q o a1 ho ha1) (by decide +kernel) wd_77 wd_63 wd_78 wd_79 ⟨rfl, rfl⟩ rfl rfl hl hR hs8 d k
set_option maxRecDepth 100000 in
set_option maxHeartbeats 400000 in
theorem c_Size_isBelow (l : Launch) (E : Ev) (σ τ : St) (q : Int64) (a1 : Int64) (a2 : Int64)  : MF l y_Size_isBelow prog_8_method_19_code 4 (some .boolean) { frames := 0, cells := 0, slots := 0, locals := 0 } E [.long a1, .long a2] (σ, τ, q) (some (.int (bI (f_Size_isBelow a1 a2)))) (σ, τ, q) := by
  refine MF_intro (lv0 := [(0, .long a1), (2, .long a2)]) (by decide) wd_81 (Nat.le_of_ble_eq_true rfl) rfl ?_
  intro p e s m args below meth c Q hC hr hk hQ
  replace hC : Cx p s m args c prog_8_method_19_code 4 "PartnerStack$Size" E := hC
  refine wi_lload_n hC 0 d_Size_isBelow_0 rfl rfl ?_
  refine wi_ldc2 hC wd_80 d_Size_isBelow_1 ?_
  refine wi_lxor hC d_Size_isBelow_4 ?_
  refine wi_lload_n hC 1 d_Size_isBelow_5 rfl rfl ?_
  refine wi_ldc2 hC wd_80 d_Size_isBelow_6 ?_
  refine wi_lxor hC d_Size_isBelow_9 ?_
  obtain ⟨Tt1, eTt1⟩ : ∃ y : Bool, y = (
          if (a2 ^^^ (-9223372036854775808)) ≤ (a1 ^^^ (-9223372036854775808)) then
            false
          else
            true) := ⟨_, rfl⟩
  have Jt1 : ∀ (t1 : Bool), Tt1 = t1 → WS p l e { frames := 0, cells := 0, slots := 0, locals := 0 } s m args below meth c Q E 4 19 [(0, .long a1), (2, .long a2)] [.int (bI t1)] (σ, τ, q) := by
    intro t1  e_t1
    rw [eTt1] at e_t1
    have hf : f_Size_isBelow a1 a2 = t1 := by subst e_t1; exact rfl
    exact wi_zret hC hr hk d_Size_isBelow_19 rfl (congrArg (fun z => some (Value.int (bI z))) hf) rfl hQ
  refine wi_lcmp_ge hC 18 d_Size_isBelow_10 d_Size_isBelow_11 (by decide) (fun h1 => ?_) (fun h1 => ?_)
  · skip
    refine wi_iconst hC 0 (by decide) d_Size_isBelow_18 ?_
    exact Jt1 false (by exact (Eq.trans eTt1 (if_pos h1)))
  · skip
    refine wi_iconst hC 1 (by decide) d_Size_isBelow_14 ?_
    refine wi_goto hC 19 d_Size_isBelow_15 (by decide) ?_
    exact Jt1 true (by exact (Eq.trans eTt1 (if_neg h1)))
theorem k_Size_isBelow {p : Program} {l : Launch} {e : Env} {R : Room} {s : State} {m : MethodId} {args : Array Value} {below : List Frame} {meth : Method} {c : Code} {Q : State → Prop} {E : Ev} {nL pc index : Nat} {lv : List (Nat × Value)} {rest : List Value} {cc : ByteArray} {own : String} {σ τ : St} {q : Int64} {a1 : Int64} {a2 : Int64} (hC : Cx p s m args c cc nL own E)   (hl : Cond.methodLink own index y_Size_isBelow ∈ WL) (hR : 0 + 1 ≤ R.frames ∧ 8 + (4 + 11) + 0 ≤ R.locals) (hs8 : (rest.map fun v => v.category).sum ≤ 8) (d : decode cc pc = .ok (.invokestatic index, 3)) (k : WS p l e R s m args below meth c Q E nL (pc + 3) lv ((.int (bI (f_Size_isBelow a1 a2))) :: rest) (σ, τ, q)) : WS p l e R s m args below meth c Q E nL pc lv (.long a2 :: .long a1 :: rest) (σ, τ, q) := by
  exact wi_callS hC (n := 2) (vs := [.long a1, .long a2]) (rest := rest) (c_Size_isBelow l E σ τ q a1 a2 ) (by decide +kernel) wd_81 wd_63 wd_82 ⟨rfl, rfl⟩ rfl rfl hl hR hs8 d k
set_option maxRecDepth 100000 in
set_option maxHeartbeats 400000 in
theorem c_Size_against (l : Launch) (E : Ev) (σ τ : St) (q : Int64) (o : Nat) (a1 : Nat) (ho : isSize o) (ha1 : isSize a1) : MF l y_Size_against prog_8_method_8_code 2 (some .int) { frames := 1, cells := 0, slots := 0, locals := 23 } E [.ref o, .ref a1] (σ, τ, q) (some (.int (f_Size_against σ o a1))) (σ, τ, q) := by
  refine MF_intro (lv0 := [(0, .ref o), (1, .ref a1)]) (by decide) wd_84 (Nat.le_of_ble_eq_true rfl) rfl ?_
  intro p e s m args below meth c Q hC hr hk hQ
  replace hC : Cx p s m args c prog_8_method_8_code 2 "PartnerStack$Size" E := hC
  refine wi_aload_n hC 0 d_Size_against_0 rfl rfl ?_
  refine wg_Size_unit hC ho wd_61 d_Size_against_1 ?_
  refine wi_aload_n hC 1 d_Size_against_4 rfl rfl ?_
  refine wg_Size_unit hC ha1 wd_61 d_Size_against_5 ?_
  refine wi_icmp_eq hC 28 d_Size_against_8 (by decide) (fun h1 => ?_) (fun h1 => ?_)
  · skip
    refine wi_aload_n hC 0 d_Size_against_28 rfl rfl ?_
    refine wg_Size_high hC ho wd_59 d_Size_against_29 ?_
    refine wi_aload_n hC 1 d_Size_against_32 rfl rfl ?_
    refine wg_Size_high hC ha1 wd_59 d_Size_against_33 ?_
    refine wi_lcmp_ne hC 42 d_Size_against_36 d_Size_against_37 (by decide) (fun h2 => ?_) (fun h2 => ?_)
    · skip
      refine wi_aload_n hC 0 d_Size_against_42 rfl rfl ?_
      refine wg_Size_high hC ho wd_59 d_Size_against_43 ?_
      refine wi_aload_n hC 1 d_Size_against_46 rfl rfl ?_
      refine wg_Size_high hC ha1 wd_59 d_Size_against_47 ?_
      refine k_Size_isBelow hC  wd_83 (by decide) (Nat.le_of_ble_eq_true rfl) d_Size_against_50 ?_
      obtain ⟨Tt1, eTt1⟩ : ∃ y : Int32, y = (
              if f_Size_isBelow (gJ σ 8 o) (gJ σ 8 a1) = true then
                (-1)
              else
                1) := ⟨_, rfl⟩
      have Jt1 : ∀ (t1 : Int32), Tt1 = t1 → WS p l e { frames := 1, cells := 0, slots := 0, locals := 23 } s m args below meth c Q E 2 61 [(0, .ref o), (1, .ref a1)] [.int t1] (σ, τ, q) := by
        intro t1  e_t1
        rw [eTt1] at e_t1
        have hf : f_Size_against σ o a1 = t1 := by subst e_t1; exact (Eq.trans (if_pos h1) (if_neg h2))
        exact wi_iret hC hr hk d_Size_against_61 (congrArg (fun z => some (Value.int z)) hf) rfl hQ
      refine wi_z_eq (b := (f_Size_isBelow (gJ σ 8 o) (gJ σ 8 a1))) hC 60 d_Size_against_53 (by decide) (fun h3 => ?_) (fun h3 => ?_)
      · skip
        refine wi_iconst hC 1 (by decide) d_Size_against_60 ?_
        exact Jt1 1 (by exact (Eq.trans eTt1 (if_neg h3)))
      · skip
        refine wi_iconst hC (-1) (by decide) d_Size_against_56 ?_
        refine wi_goto hC 61 d_Size_against_57 (by decide) ?_
        exact Jt1 (-1) (by exact (Eq.trans eTt1 (if_pos h3)))
    · skip
      refine wi_iconst hC 0 (by decide) d_Size_against_40 ?_
      have hf : f_Size_against σ o a1 = 0 := by exact (Eq.trans (if_pos h1) (if_pos h2))
      exact wi_iret hC hr hk d_Size_against_41 (congrArg (fun z => some (Value.int z)) hf) rfl hQ
  · skip
    refine wi_aload_n hC 0 d_Size_against_11 rfl rfl ?_
    refine wg_Size_unit hC ho wd_61 d_Size_against_12 ?_
    refine wi_aload_n hC 1 d_Size_against_15 rfl rfl ?_
    refine wg_Size_unit hC ha1 wd_61 d_Size_against_16 ?_
    obtain ⟨Tt2, eTt2⟩ : ∃ y : Int32, y = (
            if (gI σ 11 a1) ≤ (gI σ 11 o) then
              1
            else
              (-1)) := ⟨_, rfl⟩
    have Jt2 : ∀ (t2 : Int32), Tt2 = t2 → WS p l e { frames := 1, cells := 0, slots := 0, locals := 23 } s m args below meth c Q E 2 27 [(0, .ref o), (1, .ref a1)] [.int t2] (σ, τ, q) := by
      intro t2  e_t2
      rw [eTt2] at e_t2
      have hf : f_Size_against σ o a1 = t2 := by subst e_t2; exact (if_neg h1)
      exact wi_iret hC hr hk d_Size_against_27 (congrArg (fun z => some (Value.int z)) hf) rfl hQ
    refine wi_icmp_ge hC 26 d_Size_against_19 (by decide) (fun h4 => ?_) (fun h4 => ?_)
    · skip
      refine wi_iconst hC 1 (by decide) d_Size_against_26 ?_
      exact Jt2 1 (by exact (Eq.trans eTt2 (if_pos h4)))
    · skip
      refine wi_iconst hC (-1) (by decide) d_Size_against_22 ?_
      refine wi_goto hC 27 d_Size_against_23 (by decide) ?_
      exact Jt2 (-1) (by exact (Eq.trans eTt2 (if_neg h4)))
theorem k_Size_against {p : Program} {l : Launch} {e : Env} {R : Room} {s : State} {m : MethodId} {args : Array Value} {below : List Frame} {meth : Method} {c : Code} {Q : State → Prop} {E : Ev} {nL pc index : Nat} {lv : List (Nat × Value)} {rest : List Value} {cc : ByteArray} {own : String} {σ τ : St} {q : Int64} {o : Nat} {a1 : Nat} (hC : Cx p s m args c cc nL own E)  (ho : isSize o) (ha1 : isSize a1) (hl : Cond.methodLink own index y_Size_against ∈ WL) (hR : 1 + 1 ≤ R.frames ∧ 8 + (2 + 11) + 23 ≤ R.locals) (hs8 : (rest.map fun v => v.category).sum ≤ 8) (d : decode cc pc = .ok (.invokevirtual index, 3)) (k : WS p l e R s m args below meth c Q E nL (pc + 3) lv ((.int (f_Size_against σ o a1)) :: rest) (σ, τ, q)) : WS p l e R s m args below meth c Q E nL pc lv (.ref a1 :: .ref o :: rest) (σ, τ, q) := by
  exact wi_callV hC (n := 1) (vs := [.ref a1]) (rest := rest) o 3 (lt_Size ho) (wc_Size ho) rfl rfl (c_Size_against l E σ τ q o a1 ho ha1) (by decide +kernel) wd_84 wd_63 wd_85 wd_86 ⟨rfl, rfl⟩ rfl rfl hl hR hs8 d k
set_option maxRecDepth 100000 in
set_option maxHeartbeats 400000 in
theorem c_Size_swap (l : Launch) (E : Ev) (σ τ : St) (q : Int64) (o : Nat) (a1 : Nat) (ho : isSize o) (ha1 : isSize a1) : MF l y_Size_swap prog_8_method_9_code 5 none { frames := 0, cells := 0, slots := 0, locals := 0 } E [.ref o, .ref a1] (σ, τ, q) none ((f_Size_swap σ o a1), τ, q) := by
  refine MF_intro (lv0 := [(0, .ref o), (1, .ref a1)]) (by decide) wd_87 (Nat.le_of_ble_eq_true rfl) rfl ?_
  intro p e s m args below meth c Q hC hr hk hQ
  replace hC : Cx p s m args c prog_8_method_9_code 5 "PartnerStack$Size" E := hC
  refine wi_aload_n hC 1 d_Size_swap_0 rfl rfl ?_
  refine wg_Size_high hC ha1 wd_59 d_Size_swap_1 ?_
  refine wi_nmJ (fun v1 e_v1 => ?_)
  refine wi_lstore_n hC [(2, .long v1), (0, .ref o), (1, .ref a1)] d_Size_swap_4 rfl (by decide) rfl ?_
  refine wi_aload_n hC 2 d_Size_swap_5 rfl rfl ?_
  refine wg_Size_unit hC ha1 wd_61 d_Size_swap_6 ?_
  refine wi_nmI (fun v2 e_v2 => ?_)
  refine wi_istore hC [(4, .int v2), (2, .long v1), (0, .ref o), (1, .ref a1)] d_Size_swap_9 (by decide) rfl ?_
  refine wi_aload_n hC 3 d_Size_swap_11 rfl rfl ?_
  refine wi_aload_n hC 2 d_Size_swap_12 rfl rfl ?_
  refine wg_Size_high hC ho wd_59 d_Size_swap_13 ?_
  refine wp_Size_high hC ha1 wd_59 d_Size_swap_16 ?_
  refine wi_nmC (fun s1 e_s1 => ?_)
  refine wi_aload_n hC 3 d_Size_swap_19 rfl rfl ?_
  refine wi_aload_n hC 2 d_Size_swap_20 rfl rfl ?_
  refine wg_Size_unit hC ho wd_61 d_Size_swap_21 ?_
  refine wp_Size_unit hC ha1 wd_61 d_Size_swap_24 ?_
  refine wi_nmC (fun s2 e_s2 => ?_)
  refine wi_aload_n hC 2 d_Size_swap_27 rfl rfl ?_
  refine wi_lload_n hC 1 d_Size_swap_28 rfl rfl ?_
  refine wp_Size_high hC ho wd_59 d_Size_swap_29 ?_
  refine wi_nmC (fun s3 e_s3 => ?_)
  refine wi_aload_n hC 2 d_Size_swap_32 rfl rfl ?_
  refine wi_iload hC 0 d_Size_swap_33 rfl ?_
  refine wp_Size_unit hC ho wd_61 d_Size_swap_35 ?_
  refine wi_nmC (fun s4 e_s4 => ?_)
  have hf : f_Size_swap σ o a1 = s4 := by subst e_s4; subst e_s3; subst e_s2; subst e_s1; subst e_v2; subst e_v1; exact rfl
  exact wi_vret hC hr hk d_Size_swap_38 rfl (congrArg (fun z => (z, τ, q)) hf).symm hQ
theorem k_Size_swap {p : Program} {l : Launch} {e : Env} {R : Room} {s : State} {m : MethodId} {args : Array Value} {below : List Frame} {meth : Method} {c : Code} {Q : State → Prop} {E : Ev} {nL pc index : Nat} {lv : List (Nat × Value)} {rest : List Value} {cc : ByteArray} {own : String} {σ τ : St} {q : Int64} {o : Nat} {a1 : Nat} (hC : Cx p s m args c cc nL own E)  (ho : isSize o) (ha1 : isSize a1) (hl : Cond.methodLink own index y_Size_swap ∈ WL) (hR : 0 + 1 ≤ R.frames ∧ 8 + (5 + 11) + 0 ≤ R.locals) (hs8 : (rest.map fun v => v.category).sum ≤ 8) (d : decode cc pc = .ok (.invokevirtual index, 3)) (k : WS p l e R s m args below meth c Q E nL (pc + 3) lv rest ((f_Size_swap σ o a1), τ, q)) : WS p l e R s m args below meth c Q E nL pc lv (.ref a1 :: .ref o :: rest) (σ, τ, q) := by
  exact wi_callV hC (n := 1) (vs := [.ref a1]) (rest := rest) o 3 (lt_Size ho) (wc_Size ho) rfl rfl (c_Size_swap l E σ τ q o a1 ho ha1) (by decide +kernel) wd_87 wd_63 wd_88 wd_89 ⟨rfl, rfl⟩ rfl rfl hl hR hs8 d k
set_option maxRecDepth 100000 in
set_option maxHeartbeats 400000 in
theorem c_Size_shiftRight (l : Launch) (E : Ev) (σ τ : St) (q : Int64) (o : Nat) (a1 : Int32) (ho : isSize o) : MF l y_Size_shiftRight prog_8_method_7_code 3 none { frames := 0, cells := 0, slots := 0, locals := 0 } E [.ref o, .int a1] (σ, τ, q) none ((f_Size_shiftRight σ o a1), τ, q) := by
  refine MF_intro (lv0 := [(0, .ref o), (1, .int a1)]) (by decide) wd_90 (Nat.le_of_ble_eq_true rfl) rfl ?_
  intro p e s m args below meth c Q hC hr hk hQ
  replace hC : Cx p s m args c prog_8_method_7_code 3 "PartnerStack$Size" E := hC
  refine wi_iload_n hC 1 d_Size_shiftRight_0 rfl rfl ?_
  refine wi_istore_n hC [(2, .int a1), (0, .ref o), (1, .int a1)] d_Size_shiftRight_1 rfl (by decide) rfl ?_
  refine wi_aload_n hC 1 d_Size_shiftRight_2 rfl rfl ?_
  refine wi_dup hC rfl d_Size_shiftRight_3 ?_
  refine wg_Size_unit hC ho wd_61 d_Size_shiftRight_4 ?_
  refine wi_iload_n hC 2 d_Size_shiftRight_7 rfl rfl ?_
  refine wi_iadd hC d_Size_shiftRight_8 ?_
  refine wp_Size_unit hC ho wd_61 d_Size_shiftRight_9 ?_
  refine wi_nmC (fun s1 e_s1 => ?_)
  refine wi_iload_n hC 0 d_Size_shiftRight_12 rfl rfl ?_
  refine wi_sipush hC 128 (by decide) d_Size_shiftRight_13 ?_
  refine wi_icmp_lt hC 64 d_Size_shiftRight_16 (by decide) (fun h1 => ?_) (fun h1 => ?_)
  · skip
    refine wi_iload_n hC 0 d_Size_shiftRight_64 rfl rfl ?_
    refine wi_bipush hC 64 (by decide) d_Size_shiftRight_65 ?_
    obtain ⟨Tt1, eTt1⟩ : ∃ y : Int32 × St, y = (
            if a1 < 64 then
              (a1, s1)
            else
              let t2 : Bool := 
                  if gZ s1 10 o = true then
                    true
                  else
                    if gJ s1 9 o = 0 then
                      false
                    else
                      true
              let s2 : St := sZ s1 10 o t2
              let s3 : St := sJ s2 9 o (gJ s2 8 o)
              let s4 : St := sJ s3 8 o 0
              let v1 : Int32 := a1 + (-64)
              (v1, s4)) := ⟨_, rfl⟩
    have Jt1 : ∀ (t1 : Int32 × St), Tt1 = t1 → WS p l e { frames := 0, cells := 0, slots := 0, locals := 0 } s m args below meth c Q E 3 111 [(2, .int t1.1), (0, .ref o), (1, .int a1)] [] (t1.2, τ, q) := by
      intro t1  e_t1
      rw [eTt1] at e_t1
      refine wi_iload_n hC 0 d_Size_shiftRight_111 rfl rfl ?_
      obtain ⟨Tt3, eTt3⟩ : ∃ y : St, y = (
              if t1.1 ≤ 0 then
                t1.2
              else
                let t4 : Bool := 
                    if gZ t1.2 10 o = true then
                      true
                    else
                      if jlshl (gJ t1.2 9 o) (64 - t1.1) = 0 then
                        false
                      else
                        true
                let s5 : St := sZ t1.2 10 o t4
                let s6 : St := sJ s5 9 o ((jlushr (gJ s5 9 o) t1.1) ||| (jlshl (gJ s5 8 o) (64 - t1.1)))
                let s7 : St := sJ s6 8 o (jlushr (gJ s6 8 o) t1.1)
                s7) := ⟨_, rfl⟩
      have Jt3 : ∀ (t3 : St), Tt3 = t3 → WS p l e { frames := 0, cells := 0, slots := 0, locals := 0 } s m args below meth c Q E 3 175 [(2, .int t1.1), (0, .ref o), (1, .int a1)] [] (t3, τ, q) := by
        intro t3  e_t3
        rw [eTt3] at e_t3
        have hf : f_Size_shiftRight σ o a1 = t3 := by subst e_t3; subst e_t1; subst e_s1; exact (if_pos h1)
        exact wi_vret hC hr hk d_Size_shiftRight_175 rfl (congrArg (fun z => (z, τ, q)) hf).symm hQ
      refine wi_if_le hC 175 d_Size_shiftRight_112 (by decide) (fun h5 => ?_) (fun h5 => ?_)
      · skip
        exact Jt3 t1.2 (by exact (Eq.trans eTt3 (if_pos h5)))
      · skip
        refine wi_aload_n hC 1 d_Size_shiftRight_115 rfl rfl ?_
        refine wi_aload_n hC 1 d_Size_shiftRight_116 rfl rfl ?_
        refine wg_Size_more hC ho wd_66 d_Size_shiftRight_117 ?_
        obtain ⟨Tt4, eTt4⟩ : ∃ y : Bool, y = (
                if gZ t1.2 10 o = true then
                  true
                else
                  if jlshl (gJ t1.2 9 o) (64 - t1.1) = 0 then
                    false
                  else
                    true) := ⟨_, rfl⟩
        have Jt4 : ∀ (t4 : Bool), Tt4 = t4 → WS p l e { frames := 0, cells := 0, slots := 0, locals := 0 } s m args below meth c Q E 3 142 [(2, .int t1.1), (0, .ref o), (1, .int a1)] [.int (bI t4), .ref o] (t1.2, τ, q) := by
          intro t4  e_t4
          rw [eTt4] at e_t4
          refine wp_Size_more hC ho t4 rfl wd_66 d_Size_shiftRight_142 ?_
          refine wi_nmC (fun s5 e_s5 => ?_)
          refine wi_aload_n hC 1 d_Size_shiftRight_145 rfl rfl ?_
          refine wi_aload_n hC 1 d_Size_shiftRight_146 rfl rfl ?_
          refine wg_Size_low hC ho wd_60 d_Size_shiftRight_147 ?_
          refine wi_iload_n hC 0 d_Size_shiftRight_150 rfl rfl ?_
          refine wi_lushr hC d_Size_shiftRight_151 ?_
          refine wi_aload_n hC 1 d_Size_shiftRight_152 rfl rfl ?_
          refine wg_Size_high hC ho wd_59 d_Size_shiftRight_153 ?_
          refine wi_bipush hC 64 (by decide) d_Size_shiftRight_156 ?_
          refine wi_iload_n hC 0 d_Size_shiftRight_158 rfl rfl ?_
          refine wi_isub hC d_Size_shiftRight_159 ?_
          refine wi_lshl hC d_Size_shiftRight_160 ?_
          refine wi_lor hC d_Size_shiftRight_161 ?_
          refine wp_Size_low hC ho wd_60 d_Size_shiftRight_162 ?_
          refine wi_nmC (fun s6 e_s6 => ?_)
          refine wi_aload_n hC 1 d_Size_shiftRight_165 rfl rfl ?_
          refine wi_dup hC rfl d_Size_shiftRight_166 ?_
          refine wg_Size_high hC ho wd_59 d_Size_shiftRight_167 ?_
          refine wi_iload_n hC 0 d_Size_shiftRight_170 rfl rfl ?_
          refine wi_lushr hC d_Size_shiftRight_171 ?_
          refine wp_Size_high hC ho wd_59 d_Size_shiftRight_172 ?_
          refine wi_nmC (fun s7 e_s7 => ?_)
          exact Jt3 s7 (by subst e_s7; subst e_s6; subst e_s5; subst e_t4; exact (Eq.trans eTt3 (if_neg h5)))
        refine wi_z_ne (b := (gZ t1.2 10 o)) hC 137 d_Size_shiftRight_120 (by decide) (fun h6 => ?_) (fun h6 => ?_)
        · skip
          refine wi_iconst hC 1 (by decide) d_Size_shiftRight_137 ?_
          refine wi_goto hC 142 d_Size_shiftRight_138 (by decide) ?_
          exact Jt4 true (by exact (Eq.trans eTt4 (if_pos h6)))
        · skip
          refine wi_aload_n hC 1 d_Size_shiftRight_123 rfl rfl ?_
          refine wg_Size_low hC ho wd_60 d_Size_shiftRight_124 ?_
          refine wi_bipush hC 64 (by decide) d_Size_shiftRight_127 ?_
          refine wi_iload_n hC 0 d_Size_shiftRight_129 rfl rfl ?_
          refine wi_isub hC d_Size_shiftRight_130 ?_
          refine wi_lshl hC d_Size_shiftRight_131 ?_
          refine wi_lconst hC 0 (by decide) d_Size_shiftRight_132 ?_
          refine wi_lcmp_eq hC 141 d_Size_shiftRight_133 d_Size_shiftRight_134 (by decide) (fun h7 => ?_) (fun h7 => ?_)
          · skip
            refine wi_iconst hC 0 (by decide) d_Size_shiftRight_141 ?_
            exact Jt4 false (by exact (Eq.trans eTt4 (Eq.trans (if_neg h6) (if_pos h7))))
          · skip
            refine wi_iconst hC 1 (by decide) d_Size_shiftRight_137 ?_
            refine wi_goto hC 142 d_Size_shiftRight_138 (by decide) ?_
            exact Jt4 true (by exact (Eq.trans eTt4 (Eq.trans (if_neg h6) (if_neg h7))))
    refine wi_icmp_lt hC 111 d_Size_shiftRight_67 (by decide) (fun h2 => ?_) (fun h2 => ?_)
    · skip
      exact Jt1 (a1, s1) (by exact (Eq.trans eTt1 (if_pos h2)))
    · skip
      refine wi_aload_n hC 1 d_Size_shiftRight_70 rfl rfl ?_
      refine wi_aload_n hC 1 d_Size_shiftRight_71 rfl rfl ?_
      refine wg_Size_more hC ho wd_66 d_Size_shiftRight_72 ?_
      obtain ⟨Tt2, eTt2⟩ : ∃ y : Bool, y = (
              if gZ s1 10 o = true then
                true
              else
                if gJ s1 9 o = 0 then
                  false
                else
                  true) := ⟨_, rfl⟩
      have Jt2 : ∀ (t2 : Bool), Tt2 = t2 → WS p l e { frames := 0, cells := 0, slots := 0, locals := 0 } s m args below meth c Q E 3 92 [(2, .int a1), (0, .ref o), (1, .int a1)] [.int (bI t2), .ref o] (s1, τ, q) := by
        intro t2  e_t2
        rw [eTt2] at e_t2
        refine wp_Size_more hC ho t2 rfl wd_66 d_Size_shiftRight_92 ?_
        refine wi_nmC (fun s2 e_s2 => ?_)
        refine wi_aload_n hC 1 d_Size_shiftRight_95 rfl rfl ?_
        refine wi_aload_n hC 1 d_Size_shiftRight_96 rfl rfl ?_
        refine wg_Size_high hC ho wd_59 d_Size_shiftRight_97 ?_
        refine wp_Size_low hC ho wd_60 d_Size_shiftRight_100 ?_
        refine wi_nmC (fun s3 e_s3 => ?_)
        refine wi_aload_n hC 1 d_Size_shiftRight_103 rfl rfl ?_
        refine wi_lconst hC 0 (by decide) d_Size_shiftRight_104 ?_
        refine wp_Size_high hC ho wd_59 d_Size_shiftRight_105 ?_
        refine wi_nmC (fun s4 e_s4 => ?_)
        obtain ⟨v1, e_v1⟩ : ∃ y : Int32, a1 + (-64) = y := ⟨_, rfl⟩
        refine wi_iinc hC 0 v1 [(2, .int v1), (0, .ref o), (1, .int a1)] d_Size_shiftRight_108 rfl (by rw [← e_v1]; rfl) (by decide) rfl ?_
        exact Jt1 (v1, s4) (by subst e_v1; subst e_s4; subst e_s3; subst e_s2; subst e_t2; exact (Eq.trans eTt1 (if_neg h2)))
      refine wi_z_ne (b := (gZ s1 10 o)) hC 87 d_Size_shiftRight_75 (by decide) (fun h3 => ?_) (fun h3 => ?_)
      · skip
        refine wi_iconst hC 1 (by decide) d_Size_shiftRight_87 ?_
        refine wi_goto hC 92 d_Size_shiftRight_88 (by decide) ?_
        exact Jt2 true (by exact (Eq.trans eTt2 (if_pos h3)))
      · skip
        refine wi_aload_n hC 1 d_Size_shiftRight_78 rfl rfl ?_
        refine wg_Size_low hC ho wd_60 d_Size_shiftRight_79 ?_
        refine wi_lconst hC 0 (by decide) d_Size_shiftRight_82 ?_
        refine wi_lcmp_eq hC 91 d_Size_shiftRight_83 d_Size_shiftRight_84 (by decide) (fun h4 => ?_) (fun h4 => ?_)
        · skip
          refine wi_iconst hC 0 (by decide) d_Size_shiftRight_91 ?_
          exact Jt2 false (by exact (Eq.trans eTt2 (Eq.trans (if_neg h3) (if_pos h4))))
        · skip
          refine wi_iconst hC 1 (by decide) d_Size_shiftRight_87 ?_
          refine wi_goto hC 92 d_Size_shiftRight_88 (by decide) ?_
          exact Jt2 true (by exact (Eq.trans eTt2 (Eq.trans (if_neg h3) (if_neg h4))))
  · skip
    refine wi_aload_n hC 1 d_Size_shiftRight_19 rfl rfl ?_
    refine wi_aload_n hC 1 d_Size_shiftRight_20 rfl rfl ?_
    refine wg_Size_more hC ho wd_66 d_Size_shiftRight_21 ?_
    obtain ⟨Tt5, eTt5⟩ : ∃ y : Bool, y = (
            if gZ s1 10 o = true then
              true
            else
              if gJ s1 8 o = 0 then
                if gJ s1 9 o = 0 then
                  false
                else
                  true
              else
                true) := ⟨_, rfl⟩
    have Jt5 : ∀ (t5 : Bool), Tt5 = t5 → WS p l e { frames := 0, cells := 0, slots := 0, locals := 0 } s m args below meth c Q E 3 50 [(2, .int a1), (0, .ref o), (1, .int a1)] [.int (bI t5), .ref o] (s1, τ, q) := by
      intro t5  e_t5
      rw [eTt5] at e_t5
      refine wp_Size_more hC ho t5 rfl wd_66 d_Size_shiftRight_50 ?_
      refine wi_nmC (fun s8 e_s8 => ?_)
      refine wi_aload_n hC 1 d_Size_shiftRight_53 rfl rfl ?_
      refine wi_lconst hC 0 (by decide) d_Size_shiftRight_54 ?_
      refine wp_Size_high hC ho wd_59 d_Size_shiftRight_55 ?_
      refine wi_nmC (fun s9 e_s9 => ?_)
      refine wi_aload_n hC 1 d_Size_shiftRight_58 rfl rfl ?_
      refine wi_lconst hC 0 (by decide) d_Size_shiftRight_59 ?_
      refine wp_Size_low hC ho wd_60 d_Size_shiftRight_60 ?_
      refine wi_nmC (fun s10 e_s10 => ?_)
      have hf : f_Size_shiftRight σ o a1 = s10 := by subst e_s10; subst e_s9; subst e_s8; subst e_t5; subst e_s1; exact (if_neg h1)
      exact wi_vret hC hr hk d_Size_shiftRight_63 rfl (congrArg (fun z => (z, τ, q)) hf).symm hQ
    refine wi_z_ne (b := (gZ s1 10 o)) hC 45 d_Size_shiftRight_24 (by decide) (fun h8 => ?_) (fun h8 => ?_)
    · skip
      refine wi_iconst hC 1 (by decide) d_Size_shiftRight_45 ?_
      refine wi_goto hC 50 d_Size_shiftRight_46 (by decide) ?_
      exact Jt5 true (by exact (Eq.trans eTt5 (if_pos h8)))
    · skip
      refine wi_aload_n hC 1 d_Size_shiftRight_27 rfl rfl ?_
      refine wg_Size_high hC ho wd_59 d_Size_shiftRight_28 ?_
      refine wi_lconst hC 0 (by decide) d_Size_shiftRight_31 ?_
      refine wi_lcmp_ne hC 45 d_Size_shiftRight_32 d_Size_shiftRight_33 (by decide) (fun h9 => ?_) (fun h9 => ?_)
      · skip
        refine wi_iconst hC 1 (by decide) d_Size_shiftRight_45 ?_
        refine wi_goto hC 50 d_Size_shiftRight_46 (by decide) ?_
        exact Jt5 true (by exact (Eq.trans eTt5 (Eq.trans (if_neg h8) (if_neg h9))))
      · skip
        refine wi_aload_n hC 1 d_Size_shiftRight_36 rfl rfl ?_
        refine wg_Size_low hC ho wd_60 d_Size_shiftRight_37 ?_
        refine wi_lconst hC 0 (by decide) d_Size_shiftRight_40 ?_
        refine wi_lcmp_eq hC 49 d_Size_shiftRight_41 d_Size_shiftRight_42 (by decide) (fun h10 => ?_) (fun h10 => ?_)
        · skip
          refine wi_iconst hC 0 (by decide) d_Size_shiftRight_49 ?_
          exact Jt5 false (by exact (Eq.trans eTt5 (Eq.trans (if_neg h8) (Eq.trans (if_pos h9) (if_pos h10)))))
        · skip
          refine wi_iconst hC 1 (by decide) d_Size_shiftRight_45 ?_
          refine wi_goto hC 50 d_Size_shiftRight_46 (by decide) ?_
          exact Jt5 true (by exact (Eq.trans eTt5 (Eq.trans (if_neg h8) (Eq.trans (if_pos h9) (if_neg h10)))))
theorem k_Size_shiftRight {p : Program} {l : Launch} {e : Env} {R : Room} {s : State} {m : MethodId} {args : Array Value} {below : List Frame} {meth : Method} {c : Code} {Q : State → Prop} {E : Ev} {nL pc index : Nat} {lv : List (Nat × Value)} {rest : List Value} {cc : ByteArray} {own : String} {σ τ : St} {q : Int64} {o : Nat} {a1 : Int32} (hC : Cx p s m args c cc nL own E)  (ho : isSize o) (hl : Cond.methodLink own index y_Size_shiftRight ∈ WL) (hR : 0 + 1 ≤ R.frames ∧ 8 + (3 + 11) + 0 ≤ R.locals) (hs8 : (rest.map fun v => v.category).sum ≤ 8) (d : decode cc pc = .ok (.invokevirtual index, 3)) (k : WS p l e R s m args below meth c Q E nL (pc + 3) lv rest ((f_Size_shiftRight σ o a1), τ, q)) : WS p l e R s m args below meth c Q E nL pc lv (.int a1 :: .ref o :: rest) (σ, τ, q) := by
  exact wi_callV hC (n := 1) (vs := [.int a1]) (rest := rest) o 3 (lt_Size ho) (wc_Size ho) rfl rfl (c_Size_shiftRight l E σ τ q o a1 ho) (by decide +kernel) wd_90 wd_63 wd_91 wd_92 ⟨rfl, rfl⟩ rfl rfl hl hR hs8 d k
set_option maxRecDepth 100000 in
set_option maxHeartbeats 400000 in
theorem c_Size_add (l : Launch) (E : Ev) (σ τ : St) (q : Int64) (o : Nat) (a1 : Nat) (ho : isSize o) (ha1 : isSize a1) : MF l y_Size_add prog_8_method_10_code 2 none { frames := 1, cells := 0, slots := 0, locals := 23 } E [.ref o, .ref a1] (σ, τ, q) none ((f_Size_add σ o a1), τ, q) := by
  refine MF_intro (lv0 := [(0, .ref o), (1, .ref a1)]) (by decide) wd_94 (Nat.le_of_ble_eq_true rfl) rfl ?_
  intro p e s m args below meth c Q hC hr hk hQ
  replace hC : Cx p s m args c prog_8_method_10_code 2 "PartnerStack$Size" E := hC
  refine wi_aload_n hC 0 d_Size_add_0 rfl rfl ?_
  refine wi_iconst hC 1 (by decide) d_Size_add_1 ?_
  refine k_Size_shiftRight hC ho wd_93 (by decide) (Nat.le_of_ble_eq_true rfl) d_Size_add_2 ?_
  refine wi_nmC (fun s1 e_s1 => ?_)
  refine wi_aload_n hC 1 d_Size_add_5 rfl rfl ?_
  refine wi_aload_n hC 0 d_Size_add_6 rfl rfl ?_
  refine wg_Size_unit hC ho wd_61 d_Size_add_7 ?_
  refine wi_aload_n hC 1 d_Size_add_10 rfl rfl ?_
  refine wg_Size_unit hC ha1 wd_61 d_Size_add_11 ?_
  refine wi_isub hC d_Size_add_14 ?_
  refine k_Size_shiftRight hC ha1 wd_93 (by decide) (Nat.le_of_ble_eq_true rfl) d_Size_add_15 ?_
  refine wi_nmC (fun s2 e_s2 => ?_)
  refine wi_aload_n hC 0 d_Size_add_18 rfl rfl ?_
  refine wi_dup hC rfl d_Size_add_19 ?_
  refine wg_Size_low hC ho wd_60 d_Size_add_20 ?_
  refine wi_aload_n hC 1 d_Size_add_23 rfl rfl ?_
  refine wg_Size_low hC ha1 wd_60 d_Size_add_24 ?_
  refine wi_ladd hC d_Size_add_27 ?_
  refine wp_Size_low hC ho wd_60 d_Size_add_28 ?_
  refine wi_nmC (fun s3 e_s3 => ?_)
  refine wi_aload_n hC 0 d_Size_add_31 rfl rfl ?_
  refine wi_dup hC rfl d_Size_add_32 ?_
  refine wg_Size_high hC ho wd_59 d_Size_add_33 ?_
  refine wi_aload_n hC 1 d_Size_add_36 rfl rfl ?_
  refine wg_Size_high hC ha1 wd_59 d_Size_add_37 ?_
  refine wi_aload_n hC 0 d_Size_add_40 rfl rfl ?_
  refine wg_Size_low hC ho wd_60 d_Size_add_41 ?_
  refine wi_aload_n hC 1 d_Size_add_44 rfl rfl ?_
  refine wg_Size_low hC ha1 wd_60 d_Size_add_45 ?_
  refine k_Size_isBelow hC  wd_83 (by decide) (Nat.le_of_ble_eq_true rfl) d_Size_add_48 ?_
  obtain ⟨Tt1, eTt1⟩ : ∃ y : Bool, y = (
          if f_Size_isBelow (gJ s3 9 o) (gJ s3 9 a1) = true then
            true
          else
            false) := ⟨_, rfl⟩
  have Jt1 : ∀ (t1 : Bool), Tt1 = t1 → WS p l e { frames := 1, cells := 0, slots := 0, locals := 23 } s m args below meth c Q E 2 59 [(0, .ref o), (1, .ref a1)] [.int (bI t1), .long (gJ s3 8 a1), .long (gJ s3 8 o), .ref o] (s3, τ, q) := by
    intro t1  e_t1
    rw [eTt1] at e_t1
    refine wi_i2l hC d_Size_add_59 ?_
    refine wi_ladd hC d_Size_add_60 ?_
    refine wi_ladd hC d_Size_add_61 ?_
    refine wp_Size_high hC ho wd_59 d_Size_add_62 ?_
    refine wi_nmC (fun s4 e_s4 => ?_)
    refine wi_aload_n hC 0 d_Size_add_65 rfl rfl ?_
    refine wi_aload_n hC 1 d_Size_add_66 rfl rfl ?_
    refine wg_Size_more hC ha1 wd_66 d_Size_add_67 ?_
    refine wp_Size_more hC ho (gZ s4 10 a1) rfl wd_66 d_Size_add_70 ?_
    refine wi_nmC (fun s5 e_s5 => ?_)
    refine wi_aload_n hC 0 d_Size_add_73 rfl rfl ?_
    refine k_Size_normalise hC ho wd_67 (by decide) (Nat.le_of_ble_eq_true rfl) d_Size_add_74 ?_
    refine wi_nmC (fun s6 e_s6 => ?_)
    have hf : f_Size_add σ o a1 = s6 := by subst e_s6; subst e_s5; subst e_s4; subst e_t1; subst e_s3; subst e_s2; subst e_s1; exact rfl
    exact wi_vret hC hr hk d_Size_add_77 rfl (congrArg (fun z => (z, τ, q)) hf).symm hQ
  refine wi_z_eq (b := (f_Size_isBelow (gJ s3 9 o) (gJ s3 9 a1))) hC 58 d_Size_add_51 (by decide) (fun h1 => ?_) (fun h1 => ?_)
  · skip
    refine wi_iconst hC 0 (by decide) d_Size_add_58 ?_
    exact Jt1 false (by exact (Eq.trans eTt1 (if_neg h1)))
  · skip
    refine wi_iconst hC 1 (by decide) d_Size_add_54 ?_
    refine wi_goto hC 59 d_Size_add_55 (by decide) ?_
    exact Jt1 true (by exact (Eq.trans eTt1 (if_pos h1)))
theorem k_Size_add {p : Program} {l : Launch} {e : Env} {R : Room} {s : State} {m : MethodId} {args : Array Value} {below : List Frame} {meth : Method} {c : Code} {Q : State → Prop} {E : Ev} {nL pc index : Nat} {lv : List (Nat × Value)} {rest : List Value} {cc : ByteArray} {own : String} {σ τ : St} {q : Int64} {o : Nat} {a1 : Nat} (hC : Cx p s m args c cc nL own E)  (ho : isSize o) (ha1 : isSize a1) (hl : Cond.methodLink own index y_Size_add ∈ WL) (hR : 1 + 1 ≤ R.frames ∧ 8 + (2 + 11) + 23 ≤ R.locals) (hs8 : (rest.map fun v => v.category).sum ≤ 8) (d : decode cc pc = .ok (.invokevirtual index, 3)) (k : WS p l e R s m args below meth c Q E nL (pc + 3) lv rest ((f_Size_add σ o a1), τ, q)) : WS p l e R s m args below meth c Q E nL pc lv (.ref a1 :: .ref o :: rest) (σ, τ, q) := by
  exact wi_callV hC (n := 1) (vs := [.ref a1]) (rest := rest) o 3 (lt_Size ho) (wc_Size ho) rfl rfl (c_Size_add l E σ τ q o a1 ho ha1) (by decide +kernel) wd_94 wd_63 wd_95 wd_96 ⟨rfl, rfl⟩ rfl rfl hl hR hs8 d k
set_option maxRecDepth 100000 in
set_option maxHeartbeats 400000 in
theorem c_Size_subtract (l : Launch) (E : Ev) (σ τ : St) (q : Int64) (o : Nat) (a1 : Nat) (ho : isSize o) (ha1 : isSize a1) : MF l y_Size_subtract prog_8_method_11_code 4 none { frames := 1, cells := 0, slots := 0, locals := 23 } E [.ref o, .ref a1] (σ, τ, q) none ((f_Size_subtract σ o a1), τ, q) := by
  refine MF_intro (lv0 := [(0, .ref o), (1, .ref a1)]) (by decide) wd_97 (Nat.le_of_ble_eq_true rfl) rfl ?_
  intro p e s m args below meth c Q hC hr hk hQ
  replace hC : Cx p s m args c prog_8_method_11_code 4 "PartnerStack$Size" E := hC
  refine wi_aload_n hC 0 d_Size_subtract_0 rfl rfl ?_
  refine wi_iconst hC 1 (by decide) d_Size_subtract_1 ?_
  refine k_Size_shiftRight hC ho wd_93 (by decide) (Nat.le_of_ble_eq_true rfl) d_Size_subtract_2 ?_
  refine wi_nmC (fun s1 e_s1 => ?_)
  refine wi_aload_n hC 1 d_Size_subtract_5 rfl rfl ?_
  refine wi_aload_n hC 0 d_Size_subtract_6 rfl rfl ?_
  refine wg_Size_unit hC ho wd_61 d_Size_subtract_7 ?_
  refine wi_aload_n hC 1 d_Size_subtract_10 rfl rfl ?_
  refine wg_Size_unit hC ha1 wd_61 d_Size_subtract_11 ?_
  refine wi_isub hC d_Size_subtract_14 ?_
  refine k_Size_shiftRight hC ha1 wd_93 (by decide) (Nat.le_of_ble_eq_true rfl) d_Size_subtract_15 ?_
  refine wi_nmC (fun s2 e_s2 => ?_)
  refine wi_aload_n hC 0 d_Size_subtract_18 rfl rfl ?_
  refine wg_Size_low hC ho wd_60 d_Size_subtract_19 ?_
  refine wi_aload_n hC 1 d_Size_subtract_22 rfl rfl ?_
  refine wg_Size_low hC ha1 wd_60 d_Size_subtract_23 ?_
  refine k_Size_isBelow hC  wd_83 (by decide) (Nat.le_of_ble_eq_true rfl) d_Size_subtract_26 ?_
  obtain ⟨Tt1, eTt1⟩ : ∃ y : Int64, y = (
          if f_Size_isBelow (gJ s2 9 o) (gJ s2 9 a1) = true then
            1
          else
            0) := ⟨_, rfl⟩
  have Jt1 : ∀ (t1 : Int64), Tt1 = t1 → WS p l e { frames := 1, cells := 0, slots := 0, locals := 23 } s m args below meth c Q E 4 37 [(0, .ref o), (1, .ref a1)] [.long t1] (s2, τ, q) := by
    intro t1  e_t1
    rw [eTt1] at e_t1
    refine wi_lstore_n hC [(2, .long t1), (0, .ref o), (1, .ref a1)] d_Size_subtract_37 rfl (by decide) rfl ?_
    refine wi_aload_n hC 1 d_Size_subtract_38 rfl rfl ?_
    refine wi_dup hC rfl d_Size_subtract_39 ?_
    refine wg_Size_low hC ho wd_60 d_Size_subtract_40 ?_
    refine wi_aload_n hC 2 d_Size_subtract_43 rfl rfl ?_
    refine wg_Size_low hC ha1 wd_60 d_Size_subtract_44 ?_
    refine wi_lsub hC d_Size_subtract_47 ?_
    refine wp_Size_low hC ho wd_60 d_Size_subtract_48 ?_
    refine wi_nmC (fun s3 e_s3 => ?_)
    refine wi_aload_n hC 1 d_Size_subtract_51 rfl rfl ?_
    refine wi_dup hC rfl d_Size_subtract_52 ?_
    refine wg_Size_high hC ho wd_59 d_Size_subtract_53 ?_
    refine wi_aload_n hC 2 d_Size_subtract_56 rfl rfl ?_
    refine wg_Size_high hC ha1 wd_59 d_Size_subtract_57 ?_
    refine wi_lload_n hC 0 d_Size_subtract_60 rfl rfl ?_
    refine wi_ladd hC d_Size_subtract_61 ?_
    refine wi_lsub hC d_Size_subtract_62 ?_
    refine wp_Size_high hC ho wd_59 d_Size_subtract_63 ?_
    refine wi_nmC (fun s4 e_s4 => ?_)
    refine wi_aload_n hC 1 d_Size_subtract_66 rfl rfl ?_
    refine wi_aload_n hC 2 d_Size_subtract_67 rfl rfl ?_
    refine wg_Size_more hC ha1 wd_66 d_Size_subtract_68 ?_
    refine wp_Size_more hC ho (gZ s4 10 a1) rfl wd_66 d_Size_subtract_71 ?_
    refine wi_nmC (fun s5 e_s5 => ?_)
    refine wi_aload_n hC 1 d_Size_subtract_74 rfl rfl ?_
    refine wg_Size_more hC ho wd_66 d_Size_subtract_75 ?_
    obtain ⟨Tt2, eTt2⟩ : ∃ y : St, y = (
            if gZ s5 10 o = true then
              let t3 : Int64 := 
                  if gJ s5 9 o = 0 then
                    1
                  else
                    0
              let s6 : St := sJ s5 8 o ((gJ s5 8 o) - t3)
              let s7 : St := sJ s6 9 o ((gJ s6 9 o) - 1)
              s7
            else
              s5) := ⟨_, rfl⟩
    have Jt2 : ∀ (t2 : St), Tt2 = t2 → WS p l e { frames := 1, cells := 0, slots := 0, locals := 23 } s m args below meth c Q E 4 114 [(2, .long t1), (0, .ref o), (1, .ref a1)] [] (t2, τ, q) := by
      intro t2  e_t2
      rw [eTt2] at e_t2
      refine wi_aload_n hC 1 d_Size_subtract_114 rfl rfl ?_
      refine k_Size_normalise hC ho wd_67 (by decide) (Nat.le_of_ble_eq_true rfl) d_Size_subtract_115 ?_
      refine wi_nmC (fun s8 e_s8 => ?_)
      have hf : f_Size_subtract σ o a1 = s8 := by subst e_s8; subst e_t2; subst e_s5; subst e_s4; subst e_s3; subst e_t1; subst e_s2; subst e_s1; exact rfl
      exact wi_vret hC hr hk d_Size_subtract_118 rfl (congrArg (fun z => (z, τ, q)) hf).symm hQ
    refine wi_z_eq (b := (gZ s5 10 o)) hC 114 d_Size_subtract_78 (by decide) (fun h2 => ?_) (fun h2 => ?_)
    · skip
      exact Jt2 s5 (by exact (Eq.trans eTt2 (if_neg h2)))
    · skip
      refine wi_aload_n hC 1 d_Size_subtract_81 rfl rfl ?_
      refine wi_dup hC rfl d_Size_subtract_82 ?_
      refine wg_Size_high hC ho wd_59 d_Size_subtract_83 ?_
      refine wi_aload_n hC 1 d_Size_subtract_86 rfl rfl ?_
      refine wg_Size_low hC ho wd_60 d_Size_subtract_87 ?_
      refine wi_lconst hC 0 (by decide) d_Size_subtract_90 ?_
      obtain ⟨Tt3, eTt3⟩ : ∃ y : Int64, y = (
              if gJ s5 9 o = 0 then
                1
              else
                0) := ⟨_, rfl⟩
      have Jt3 : ∀ (t3 : Int64), Tt3 = t3 → WS p l e { frames := 1, cells := 0, slots := 0, locals := 23 } s m args below meth c Q E 4 100 [(2, .long t1), (0, .ref o), (1, .ref a1)] [.long t3, .long (gJ s5 8 o), .ref o] (s5, τ, q) := by
        intro t3  e_t3
        rw [eTt3] at e_t3
        refine wi_lsub hC d_Size_subtract_100 ?_
        refine wp_Size_high hC ho wd_59 d_Size_subtract_101 ?_
        refine wi_nmC (fun s6 e_s6 => ?_)
        refine wi_aload_n hC 1 d_Size_subtract_104 rfl rfl ?_
        refine wi_dup hC rfl d_Size_subtract_105 ?_
        refine wg_Size_low hC ho wd_60 d_Size_subtract_106 ?_
        refine wi_lconst hC 1 (by decide) d_Size_subtract_109 ?_
        refine wi_lsub hC d_Size_subtract_110 ?_
        refine wp_Size_low hC ho wd_60 d_Size_subtract_111 ?_
        refine wi_nmC (fun s7 e_s7 => ?_)
        exact Jt2 s7 (by subst e_s7; subst e_s6; subst e_t3; exact (Eq.trans eTt2 (if_pos h2)))
      refine wi_lcmp_ne hC 99 d_Size_subtract_91 d_Size_subtract_92 (by decide) (fun h3 => ?_) (fun h3 => ?_)
      · skip
        refine wi_lconst hC 0 (by decide) d_Size_subtract_99 ?_
        exact Jt3 0 (by exact (Eq.trans eTt3 (if_neg h3)))
      · skip
        refine wi_lconst hC 1 (by decide) d_Size_subtract_95 ?_
        refine wi_goto hC 100 d_Size_subtract_96 (by decide) ?_
        exact Jt3 1 (by exact (Eq.trans eTt3 (if_pos h3)))
  refine wi_z_eq (b := (f_Size_isBelow (gJ s2 9 o) (gJ s2 9 a1))) hC 36 d_Size_subtract_29 (by decide) (fun h1 => ?_) (fun h1 => ?_)
  · skip
    refine wi_lconst hC 0 (by decide) d_Size_subtract_36 ?_
    exact Jt1 0 (by exact (Eq.trans eTt1 (if_neg h1)))
  · skip
    refine wi_lconst hC 1 (by decide) d_Size_subtract_32 ?_
    refine wi_goto hC 37 d_Size_subtract_33 (by decide) ?_
    exact Jt1 1 (by exact (Eq.trans eTt1 (if_pos h1)))
theorem k_Size_subtract {p : Program} {l : Launch} {e : Env} {R : Room} {s : State} {m : MethodId} {args : Array Value} {below : List Frame} {meth : Method} {c : Code} {Q : State → Prop} {E : Ev} {nL pc index : Nat} {lv : List (Nat × Value)} {rest : List Value} {cc : ByteArray} {own : String} {σ τ : St} {q : Int64} {o : Nat} {a1 : Nat} (hC : Cx p s m args c cc nL own E)  (ho : isSize o) (ha1 : isSize a1) (hl : Cond.methodLink own index y_Size_subtract ∈ WL) (hR : 1 + 1 ≤ R.frames ∧ 8 + (4 + 11) + 23 ≤ R.locals) (hs8 : (rest.map fun v => v.category).sum ≤ 8) (d : decode cc pc = .ok (.invokevirtual index, 3)) (k : WS p l e R s m args below meth c Q E nL (pc + 3) lv rest ((f_Size_subtract σ o a1), τ, q)) : WS p l e R s m args below meth c Q E nL pc lv (.ref a1 :: .ref o :: rest) (σ, τ, q) := by
  exact wi_callV hC (n := 1) (vs := [.ref a1]) (rest := rest) o 3 (lt_Size ho) (wc_Size ho) rfl rfl (c_Size_subtract l E σ τ q o a1 ho ha1) (by decide +kernel) wd_97 wd_63 wd_98 wd_99 ⟨rfl, rfl⟩ rfl rfl hl hR hs8 d k
set_option maxRecDepth 100000 in
set_option maxHeartbeats 400000 in
theorem c_Size_multiply (l : Launch) (E : Ev) (σ τ : St) (q : Int64) (o : Nat) (a1 : Nat) (ho : isSize o) (ha1 : isSize a1) : MF l y_Size_multiply prog_8_method_12_code 16 none { frames := 1, cells := 0, slots := 0, locals := 21 } E [.ref o, .ref a1] (σ, τ, q) none ((f_Size_multiply σ o a1), τ, q) := by
  refine MF_intro (lv0 := [(0, .ref o), (1, .ref a1)]) (by decide) wd_101 (Nat.le_of_ble_eq_true rfl) rfl ?_
  intro p e s m args below meth c Q hC hr hk hQ
  replace hC : Cx p s m args c prog_8_method_12_code 16 "PartnerStack$Size" E := hC
  refine wi_aload_n hC 0 d_Size_multiply_0 rfl rfl ?_
  refine wg_Size_high hC ho wd_59 d_Size_multiply_1 ?_
  refine wi_bipush hC 32 (by decide) d_Size_multiply_4 ?_
  refine wi_lushr hC d_Size_multiply_6 ?_
  refine wi_nmJ (fun v1 e_v1 => ?_)
  refine wi_lstore_n hC [(2, .long v1), (0, .ref o), (1, .ref a1)] d_Size_multiply_7 rfl (by decide) rfl ?_
  refine wi_aload_n hC 1 d_Size_multiply_8 rfl rfl ?_
  refine wg_Size_high hC ho wd_59 d_Size_multiply_9 ?_
  refine wi_ldc2 hC wd_100 d_Size_multiply_12 ?_
  refine wi_land hC d_Size_multiply_15 ?_
  refine wi_nmJ (fun v2 e_v2 => ?_)
  refine wi_lstore hC [(4, .long v2), (2, .long v1), (0, .ref o), (1, .ref a1)] d_Size_multiply_16 (by decide) rfl ?_
  refine wi_aload_n hC 3 d_Size_multiply_18 rfl rfl ?_
  refine wg_Size_high hC ha1 wd_59 d_Size_multiply_19 ?_
  refine wi_bipush hC 32 (by decide) d_Size_multiply_22 ?_
  refine wi_lushr hC d_Size_multiply_24 ?_
  refine wi_nmJ (fun v3 e_v3 => ?_)
  refine wi_lstore hC [(6, .long v3), (4, .long v2), (2, .long v1), (0, .ref o), (1, .ref a1)] d_Size_multiply_25 (by decide) rfl ?_
  refine wi_aload_n hC 4 d_Size_multiply_27 rfl rfl ?_
  refine wg_Size_high hC ha1 wd_59 d_Size_multiply_28 ?_
  refine wi_ldc2 hC wd_100 d_Size_multiply_31 ?_
  refine wi_land hC d_Size_multiply_34 ?_
  refine wi_nmJ (fun v4 e_v4 => ?_)
  refine wi_lstore hC [(8, .long v4), (6, .long v3), (4, .long v2), (2, .long v1), (0, .ref o), (1, .ref a1)] d_Size_multiply_35 (by decide) rfl ?_
  refine wi_lload hC 2 d_Size_multiply_37 rfl ?_
  refine wi_lload hC 0 d_Size_multiply_39 rfl ?_
  refine wi_lmul hC d_Size_multiply_41 ?_
  refine wi_nmJ (fun v5 e_v5 => ?_)
  refine wi_lstore hC [(10, .long v5), (8, .long v4), (6, .long v3), (4, .long v2), (2, .long v1), (0, .ref o), (1, .ref a1)] d_Size_multiply_42 (by decide) rfl ?_
  refine wi_lload_n hC 4 d_Size_multiply_44 rfl rfl ?_
  refine wi_lload hC 1 d_Size_multiply_45 rfl ?_
  refine wi_lmul hC d_Size_multiply_47 ?_
  refine wi_lload hC 0 d_Size_multiply_48 rfl ?_
  refine wi_bipush hC 32 (by decide) d_Size_multiply_50 ?_
  refine wi_lushr hC d_Size_multiply_52 ?_
  refine wi_ladd hC d_Size_multiply_53 ?_
  refine wi_nmJ (fun v6 e_v6 => ?_)
  refine wi_lstore hC [(12, .long v6), (10, .long v5), (8, .long v4), (6, .long v3), (4, .long v2), (2, .long v1), (0, .ref o), (1, .ref a1)] d_Size_multiply_54 (by decide) rfl ?_
  refine wi_lload hC 4 d_Size_multiply_56 rfl ?_
  refine wi_lload hC 3 d_Size_multiply_58 rfl ?_
  refine wi_lmul hC d_Size_multiply_60 ?_
  refine wi_lload hC 0 d_Size_multiply_61 rfl ?_
  refine wi_ldc2 hC wd_100 d_Size_multiply_63 ?_
  refine wi_land hC d_Size_multiply_66 ?_
  refine wi_ladd hC d_Size_multiply_67 ?_
  refine wi_nmJ (fun v7 e_v7 => ?_)
  refine wi_lstore hC [(14, .long v7), (12, .long v6), (10, .long v5), (8, .long v4), (6, .long v3), (4, .long v2), (2, .long v1), (0, .ref o), (1, .ref a1)] d_Size_multiply_68 (by decide) rfl ?_
  refine wi_aload_n hC 7 d_Size_multiply_70 rfl rfl ?_
  refine wi_lload_n hC 6 d_Size_multiply_71 rfl rfl ?_
  refine wi_lload hC 4 d_Size_multiply_72 rfl ?_
  refine wi_lmul hC d_Size_multiply_74 ?_
  refine wi_lload hC 1 d_Size_multiply_75 rfl ?_
  refine wi_bipush hC 32 (by decide) d_Size_multiply_77 ?_
  refine wi_lushr hC d_Size_multiply_79 ?_
  refine wi_ladd hC d_Size_multiply_80 ?_
  refine wi_lload hC 0 d_Size_multiply_81 rfl ?_
  refine wi_bipush hC 32 (by decide) d_Size_multiply_83 ?_
  refine wi_lushr hC d_Size_multiply_85 ?_
  refine wi_ladd hC d_Size_multiply_86 ?_
  refine wp_Size_high hC ho wd_59 d_Size_multiply_87 ?_
  refine wi_nmC (fun s1 e_s1 => ?_)
  refine wi_aload_n hC 7 d_Size_multiply_90 rfl rfl ?_
  refine wi_lload hC 0 d_Size_multiply_91 rfl ?_
  refine wi_bipush hC 32 (by decide) d_Size_multiply_93 ?_
  refine wi_lshl hC d_Size_multiply_95 ?_
  refine wi_lload hC 2 d_Size_multiply_96 rfl ?_
  refine wi_ldc2 hC wd_100 d_Size_multiply_98 ?_
  refine wi_land hC d_Size_multiply_101 ?_
  refine wi_lor hC d_Size_multiply_102 ?_
  refine wp_Size_low hC ho wd_60 d_Size_multiply_103 ?_
  refine wi_nmC (fun s2 e_s2 => ?_)
  refine wi_aload_n hC 7 d_Size_multiply_106 rfl rfl ?_
  refine wi_dup hC rfl d_Size_multiply_107 ?_
  refine wg_Size_unit hC ho wd_61 d_Size_multiply_108 ?_
  refine wi_aload_n hC 8 d_Size_multiply_111 rfl rfl ?_
  refine wg_Size_unit hC ha1 wd_61 d_Size_multiply_112 ?_
  refine wi_sipush hC 128 (by decide) d_Size_multiply_115 ?_
  refine wi_iadd hC d_Size_multiply_118 ?_
  refine wi_iadd hC d_Size_multiply_119 ?_
  refine wp_Size_unit hC ho wd_61 d_Size_multiply_120 ?_
  refine wi_nmC (fun s3 e_s3 => ?_)
  refine wi_aload_n hC 7 d_Size_multiply_123 rfl rfl ?_
  refine k_Size_normalise hC ho wd_67 (by decide) (Nat.le_of_ble_eq_true rfl) d_Size_multiply_124 ?_
  refine wi_nmC (fun s4 e_s4 => ?_)
  have hf : f_Size_multiply σ o a1 = s4 := by subst e_s4; subst e_s3; subst e_s2; subst e_s1; subst e_v7; subst e_v6; subst e_v5; subst e_v4; subst e_v3; subst e_v2; subst e_v1; exact rfl
  exact wi_vret hC hr hk d_Size_multiply_127 rfl (congrArg (fun z => (z, τ, q)) hf).symm hQ
theorem k_Size_multiply {p : Program} {l : Launch} {e : Env} {R : Room} {s : State} {m : MethodId} {args : Array Value} {below : List Frame} {meth : Method} {c : Code} {Q : State → Prop} {E : Ev} {nL pc index : Nat} {lv : List (Nat × Value)} {rest : List Value} {cc : ByteArray} {own : String} {σ τ : St} {q : Int64} {o : Nat} {a1 : Nat} (hC : Cx p s m args c cc nL own E)  (ho : isSize o) (ha1 : isSize a1) (hl : Cond.methodLink own index y_Size_multiply ∈ WL) (hR : 1 + 1 ≤ R.frames ∧ 8 + (16 + 11) + 21 ≤ R.locals) (hs8 : (rest.map fun v => v.category).sum ≤ 8) (d : decode cc pc = .ok (.invokevirtual index, 3)) (k : WS p l e R s m args below meth c Q E nL (pc + 3) lv rest ((f_Size_multiply σ o a1), τ, q)) : WS p l e R s m args below meth c Q E nL pc lv (.ref a1 :: .ref o :: rest) (σ, τ, q) := by
  exact wi_callV hC (n := 1) (vs := [.ref a1]) (rest := rest) o 3 (lt_Size ho) (wc_Size ho) rfl rfl (c_Size_multiply l E σ τ q o a1 ho ha1) (by decide +kernel) wd_101 wd_63 wd_102 wd_103 ⟨rfl, rfl⟩ rfl rfl hl hR hs8 d k
set_option maxRecDepth 100000 in
set_option maxHeartbeats 400000 in
theorem c_Size_longDivide (l : Launch) (E : Ev) (σ τ : St) (q : Int64) (o : Nat) (a1 : Int64) (a2 : Int32) (ho : isSize o) : MF l y_Size_longDivide prog_8_method_15_code 6 none { frames := 1, cells := 0, slots := 0, locals := 23 } E [.ref o, .long a1, .int a2] (σ, τ, q) none ((f_Size_longDivide σ o a1 a2), τ, q) := by
  refine MF_intro (lv0 := [(0, .ref o), (1, .long a1), (3, .int a2)]) (by decide) wd_105 (Nat.le_of_ble_eq_true rfl) rfl ?_
  intro p e s m args below meth c Q hC hr hk hQ
  replace hC : Cx p s m args c prog_8_method_15_code 6 "PartnerStack$Size" E := hC
  refine wi_aload_n hC 0 d_Size_longDivide_0 rfl rfl ?_
  refine wi_aload_n hC 0 d_Size_longDivide_1 rfl rfl ?_
  refine wg_Size_high hC ho wd_59 d_Size_longDivide_2 ?_
  refine wp_Size_rest hC ho wd_104 d_Size_longDivide_5 ?_
  refine wi_nmC (fun s1 e_s1 => ?_)
  refine wi_aload_n hC 0 d_Size_longDivide_8 rfl rfl ?_
  refine wi_lconst hC 0 (by decide) d_Size_longDivide_9 ?_
  refine wp_Size_high hC ho wd_59 d_Size_longDivide_10 ?_
  refine wi_nmC (fun s2 e_s2 => ?_)
  refine wi_aload_n hC 0 d_Size_longDivide_13 rfl rfl ?_
  refine wi_lconst hC 0 (by decide) d_Size_longDivide_14 ?_
  refine wp_Size_low hC ho wd_60 d_Size_longDivide_15 ?_
  refine wi_nmC (fun s3 e_s3 => ?_)
  refine wi_aload_n hC 0 d_Size_longDivide_18 rfl rfl ?_
  refine wg_Size_rest hC ho wd_104 d_Size_longDivide_19 ?_
  refine wi_lload_n hC 1 d_Size_longDivide_22 rfl rfl ?_
  refine k_Size_isBelow hC  wd_83 (by decide) (Nat.le_of_ble_eq_true rfl) d_Size_longDivide_23 ?_
  obtain ⟨Tt1, eTt1⟩ : ∃ y : St, y = (
          if f_Size_isBelow (gJ s3 14 o) a1 = true then
            s3
          else
            let s4 : St := sJ s3 14 o ((gJ s3 14 o) - a1)
            let s5 : St := sJ s4 9 o 1
            s5) := ⟨_, rfl⟩
  have Jt1 : ∀ (t1 : St), Tt1 = t1 → WS p l e { frames := 1, cells := 0, slots := 0, locals := 23 } s m args below meth c Q E 6 44 [(0, .ref o), (1, .long a1), (3, .int a2)] [] (t1, τ, q) := by
    intro t1  e_t1
    rw [eTt1] at e_t1
    refine wi_iconst hC 0 (by decide) d_Size_longDivide_44 ?_
    refine wi_istore hC [(4, .int 0), (0, .ref o), (1, .long a1), (3, .int a2)] d_Size_longDivide_45 (by decide) rfl ?_
    refine wi_loop ((b_Size_longDivide_47 o a1 a2)) (fun t3 => 0 ≤ (t3.1).toInt) (fun t3 => [(4, .int t3.1), (0, .ref o), (1, .long a1), (3, .int a2)]) (fun t3 => (t3.2, τ, q)) 149 ?_ (up_inv (b := (b_Size_longDivide_47 o a1 a2)) (fun t => t.1) a2 0 (st_b_Size_longDivide_47 o a1 a2)) (upf a2 0) (0, t1) (show (0 : Int) ≤ (0 : Int32).toInt by decide) (up_halt (b := (b_Size_longDivide_47 o a1 a2)) (fun t => t.1) a2 (st_b_Size_longDivide_47 o a1 a2) (0, t1)) ?_
    · intro t3 hi_t3 hc_t3 hx_t3
      refine wi_iload hC 0 d_Size_longDivide_47 rfl ?_
      refine wi_iload_n hC 3 d_Size_longDivide_49 rfl rfl ?_
      refine wi_icmp_ge hC 149 d_Size_longDivide_50 (by decide) (fun h2 => ?_) (fun h2 => ?_)
      · skip
        exact hx_t3 (t3.1, t3.2) (by exact (if_pos h2))
      · skip
        refine wi_aload_n hC 1 d_Size_longDivide_53 rfl rfl ?_
        refine wg_Size_rest hC ho wd_104 d_Size_longDivide_54 ?_
        refine wi_lconst hC 0 (by decide) d_Size_longDivide_57 ?_
        obtain ⟨Tt4, eTt4⟩ : ∃ y : Bool, y = (
                if 0 ≤ (gJ t3.2 14 o) then
                  false
                else
                  true) := ⟨_, rfl⟩
        have Jt4 : ∀ (t4 : Bool), Tt4 = t4 → WS p l e { frames := 1, cells := 0, slots := 0, locals := 23 } s m args below meth c Q E 6 67 [(4, .int t3.1), (0, .ref o), (1, .long a1), (3, .int a2)] [.int (bI t4)] (t3.2, τ, q) := by
          intro t4  e_t4
          rw [eTt4] at e_t4
          refine wi_istore hC [(5, .int (bI t4)), (4, .int t3.1), (0, .ref o), (1, .long a1), (3, .int a2)] d_Size_longDivide_67 (by decide) rfl ?_
          refine wi_aload_n hC 2 d_Size_longDivide_69 rfl rfl ?_
          refine wi_dup hC rfl d_Size_longDivide_70 ?_
          refine wg_Size_rest hC ho wd_104 d_Size_longDivide_71 ?_
          refine wi_iconst hC 1 (by decide) d_Size_longDivide_74 ?_
          refine wi_lshl hC d_Size_longDivide_75 ?_
          refine wp_Size_rest hC ho wd_104 d_Size_longDivide_76 ?_
          refine wi_nmC (fun s6 e_s6 => ?_)
          refine wi_aload_n hC 2 d_Size_longDivide_79 rfl rfl ?_
          refine wi_aload_n hC 2 d_Size_longDivide_80 rfl rfl ?_
          refine wg_Size_high hC ho wd_59 d_Size_longDivide_81 ?_
          refine wi_iconst hC 1 (by decide) d_Size_longDivide_84 ?_
          refine wi_lshl hC d_Size_longDivide_85 ?_
          refine wi_aload_n hC 2 d_Size_longDivide_86 rfl rfl ?_
          refine wg_Size_low hC ho wd_60 d_Size_longDivide_87 ?_
          refine wi_bipush hC 63 (by decide) d_Size_longDivide_90 ?_
          refine wi_lushr hC d_Size_longDivide_92 ?_
          refine wi_lor hC d_Size_longDivide_93 ?_
          refine wp_Size_high hC ho wd_59 d_Size_longDivide_94 ?_
          refine wi_nmC (fun s7 e_s7 => ?_)
          refine wi_aload_n hC 2 d_Size_longDivide_97 rfl rfl ?_
          refine wi_dup hC rfl d_Size_longDivide_98 ?_
          refine wg_Size_low hC ho wd_60 d_Size_longDivide_99 ?_
          refine wi_iconst hC 1 (by decide) d_Size_longDivide_102 ?_
          refine wi_lshl hC d_Size_longDivide_103 ?_
          refine wp_Size_low hC ho wd_60 d_Size_longDivide_104 ?_
          refine wi_nmC (fun s8 e_s8 => ?_)
          refine wi_iload hC 0 d_Size_longDivide_107 rfl ?_
          obtain ⟨Tt5, eTt5⟩ : ∃ y : St, y = (
                  if t4 = true then
                    f_Size_longDivide_b123 o a1 s8
                  else
                    if f_Size_isBelow (gJ s8 14 o) a1 = true then
                      s8
                    else
                      f_Size_longDivide_b123 o a1 s8) := ⟨_, rfl⟩
          have Jt5 : ∀ (t5 : St), Tt5 = t5 → WS p l e { frames := 1, cells := 0, slots := 0, locals := 23 } s m args below meth c Q E 6 143 [(5, .int (bI t4)), (4, .int t3.1), (0, .ref o), (1, .long a1), (3, .int a2)] [] (t5, τ, q) := by
            intro t5  e_t5
            rw [eTt5] at e_t5
            obtain ⟨v1, e_v1⟩ : ∃ y : Int32, t3.1 + 1 = y := ⟨_, rfl⟩
            refine wi_iinc hC 1 v1 [(4, .int v1), (5, .int (bI t4)), (0, .ref o), (1, .long a1), (3, .int a2)] d_Size_longDivide_143 rfl (by rw [← e_v1]; rfl) (by decide) rfl ?_
            refine wi_goto hC 47 d_Size_longDivide_146 (by decide) ?_
            refine wi_lv [0, 2, 3, 4] [(4, .int v1), (0, .ref o), (1, .long a1), (3, .int a2)] rfl ?_
            exact hc_t3 (v1, t5) (by subst e_v1; subst e_t5; subst e_s8; subst e_s7; subst e_s6; subst e_t4; exact (if_neg h2))
          have B1 : Tt5 = f_Size_longDivide_b123 o a1 s8 → WS p l e { frames := 1, cells := 0, slots := 0, locals := 23 } s m args below meth c Q E 6 123 [(5, .int (bI t4)), (4, .int t3.1), (0, .ref o), (1, .long a1), (3, .int a2)] [] (s8, τ, q) := by
            intro hB1
            refine wi_aload_n hC 2 d_Size_longDivide_123 rfl rfl ?_
            refine wi_dup hC rfl d_Size_longDivide_124 ?_
            refine wg_Size_rest hC ho wd_104 d_Size_longDivide_125 ?_
            refine wi_lload_n hC 3 d_Size_longDivide_128 rfl rfl ?_
            refine wi_lsub hC d_Size_longDivide_129 ?_
            refine wp_Size_rest hC ho wd_104 d_Size_longDivide_130 ?_
            refine wi_nmC (fun s9 e_s9 => ?_)
            refine wi_aload_n hC 2 d_Size_longDivide_133 rfl rfl ?_
            refine wi_dup hC rfl d_Size_longDivide_134 ?_
            refine wg_Size_low hC ho wd_60 d_Size_longDivide_135 ?_
            refine wi_lconst hC 1 (by decide) d_Size_longDivide_138 ?_
            refine wi_lor hC d_Size_longDivide_139 ?_
            refine wp_Size_low hC ho wd_60 d_Size_longDivide_140 ?_
            refine wi_nmC (fun s10 e_s10 => ?_)
            exact Jt5 s10 (by subst e_s10; subst e_s9; exact hB1)
          refine wi_z_ne (b := t4) hC 123 d_Size_longDivide_109 (by decide) (fun h4 => ?_) (fun h4 => ?_)
          · skip
            exact B1   (by exact (Eq.trans eTt5 (if_pos h4)))
          · skip
            refine wi_aload_n hC 2 d_Size_longDivide_112 rfl rfl ?_
            refine wg_Size_rest hC ho wd_104 d_Size_longDivide_113 ?_
            refine wi_lload_n hC 3 d_Size_longDivide_116 rfl rfl ?_
            refine k_Size_isBelow hC  wd_83 (by decide) (Nat.le_of_ble_eq_true rfl) d_Size_longDivide_117 ?_
            refine wi_z_ne (b := (f_Size_isBelow (gJ s8 14 o) a1)) hC 143 d_Size_longDivide_120 (by decide) (fun h5 => ?_) (fun h5 => ?_)
            · skip
              exact Jt5 s8 (by exact (Eq.trans eTt5 (Eq.trans (if_neg h4) (if_pos h5))))
            · skip
              exact B1   (by exact (Eq.trans eTt5 (Eq.trans (if_neg h4) (if_neg h5))))
        refine wi_lcmp_ge hC 66 d_Size_longDivide_58 d_Size_longDivide_59 (by decide) (fun h3 => ?_) (fun h3 => ?_)
        · skip
          refine wi_iconst hC 0 (by decide) d_Size_longDivide_66 ?_
          exact Jt4 false (by exact (Eq.trans eTt4 (if_pos h3)))
        · skip
          refine wi_iconst hC 1 (by decide) d_Size_longDivide_62 ?_
          refine wi_goto hC 67 d_Size_longDivide_63 (by decide) ?_
          exact Jt4 true (by exact (Eq.trans eTt4 (if_neg h3)))
    obtain ⟨t2, e_t2⟩ : ∃ y : Int32 × St, lpn ((b_Size_longDivide_47 o a1 a2)) (upf a2 0) (0, t1) = y := ⟨_, rfl⟩
    rw [e_t2]
    have hf : f_Size_longDivide σ o a1 a2 = t2.2 := by subst e_t2; subst e_t1; subst e_s3; subst e_s2; subst e_s1; exact rfl
    exact wi_vret hC hr hk d_Size_longDivide_149 rfl (congrArg (fun z => (z, τ, q)) hf).symm hQ
  refine wi_z_ne (b := (f_Size_isBelow (gJ s3 14 o) a1)) hC 44 d_Size_longDivide_26 (by decide) (fun h1 => ?_) (fun h1 => ?_)
  · skip
    exact Jt1 s3 (by exact (Eq.trans eTt1 (if_pos h1)))
  · skip
    refine wi_aload_n hC 0 d_Size_longDivide_29 rfl rfl ?_
    refine wi_dup hC rfl d_Size_longDivide_30 ?_
    refine wg_Size_rest hC ho wd_104 d_Size_longDivide_31 ?_
    refine wi_lload_n hC 1 d_Size_longDivide_34 rfl rfl ?_
    refine wi_lsub hC d_Size_longDivide_35 ?_
    refine wp_Size_rest hC ho wd_104 d_Size_longDivide_36 ?_
    refine wi_nmC (fun s4 e_s4 => ?_)
    refine wi_aload_n hC 0 d_Size_longDivide_39 rfl rfl ?_
    refine wi_lconst hC 1 (by decide) d_Size_longDivide_40 ?_
    refine wp_Size_low hC ho wd_60 d_Size_longDivide_41 ?_
    refine wi_nmC (fun s5 e_s5 => ?_)
    exact Jt1 s5 (by subst e_s5; subst e_s4; exact (Eq.trans eTt1 (if_neg h1)))
theorem k_Size_longDivide {p : Program} {l : Launch} {e : Env} {R : Room} {s : State} {m : MethodId} {args : Array Value} {below : List Frame} {meth : Method} {c : Code} {Q : State → Prop} {E : Ev} {nL pc index : Nat} {lv : List (Nat × Value)} {rest : List Value} {cc : ByteArray} {own : String} {σ τ : St} {q : Int64} {o : Nat} {a1 : Int64} {a2 : Int32} (hC : Cx p s m args c cc nL own E)  (ho : isSize o) (hl : Cond.methodLink own index y_Size_longDivide ∈ WL) (hR : 1 + 1 ≤ R.frames ∧ 8 + (6 + 11) + 23 ≤ R.locals) (hs8 : (rest.map fun v => v.category).sum ≤ 8) (d : decode cc pc = .ok (.invokevirtual index, 3)) (k : WS p l e R s m args below meth c Q E nL (pc + 3) lv rest ((f_Size_longDivide σ o a1 a2), τ, q)) : WS p l e R s m args below meth c Q E nL pc lv (.int a2 :: .long a1 :: .ref o :: rest) (σ, τ, q) := by
  exact wi_callV hC (n := 2) (vs := [.long a1, .int a2]) (rest := rest) o 3 (lt_Size ho) (wc_Size ho) rfl rfl (c_Size_longDivide l E σ τ q o a1 a2 ho) (by decide +kernel) wd_105 wd_63 wd_106 wd_107 ⟨rfl, rfl⟩ rfl rfl hl hR hs8 d k
set_option maxRecDepth 100000 in
set_option maxHeartbeats 400000 in
theorem c_Size_divide (l : Launch) (E : Ev) (σ τ : St) (q : Int64) (o : Nat) (a1 : Nat) (ho : isSize o) (ha1 : isSize a1) : MF l y_Size_divide prog_8_method_13_code 2 none { frames := 2, cells := 0, slots := 0, locals := 48 } E [.ref o, .ref a1] (σ, τ, q) none ((f_Size_divide σ o a1), τ, q) := by
  refine MF_intro (lv0 := [(0, .ref o), (1, .ref a1)]) (by decide) wd_109 (Nat.le_of_ble_eq_true rfl) rfl ?_
  intro p e s m args below meth c Q hC hr hk hQ
  replace hC : Cx p s m args c prog_8_method_13_code 2 "PartnerStack$Size" E := hC
  refine wi_aload_n hC 0 d_Size_divide_0 rfl rfl ?_
  refine wi_aload_n hC 1 d_Size_divide_1 rfl rfl ?_
  refine wg_Size_high hC ha1 wd_59 d_Size_divide_2 ?_
  refine wi_bipush hC 66 (by decide) d_Size_divide_5 ?_
  refine k_Size_longDivide hC ho wd_108 (by decide) (Nat.le_of_ble_eq_true rfl) d_Size_divide_7 ?_
  refine wi_nmC (fun s1 e_s1 => ?_)
  refine wi_aload_n hC 0 d_Size_divide_10 rfl rfl ?_
  refine wi_aload_n hC 0 d_Size_divide_11 rfl rfl ?_
  refine wg_Size_rest hC ho wd_104 d_Size_divide_12 ?_
  refine wi_lconst hC 0 (by decide) d_Size_divide_15 ?_
  obtain ⟨Tt1, eTt1⟩ : ∃ y : Bool, y = (
          if gJ s1 14 o = 0 then
            false
          else
            true) := ⟨_, rfl⟩
  have Jt1 : ∀ (t1 : Bool), Tt1 = t1 → WS p l e { frames := 2, cells := 0, slots := 0, locals := 48 } s m args below meth c Q E 2 25 [(0, .ref o), (1, .ref a1)] [.int (bI t1), .ref o] (s1, τ, q) := by
    intro t1  e_t1
    rw [eTt1] at e_t1
    refine wp_Size_more hC ho t1 rfl wd_66 d_Size_divide_25 ?_
    refine wi_nmC (fun s2 e_s2 => ?_)
    refine wi_aload_n hC 0 d_Size_divide_28 rfl rfl ?_
    refine wi_dup hC rfl d_Size_divide_29 ?_
    refine wg_Size_unit hC ho wd_61 d_Size_divide_30 ?_
    refine wi_aload_n hC 1 d_Size_divide_33 rfl rfl ?_
    refine wg_Size_unit hC ha1 wd_61 d_Size_divide_34 ?_
    refine wi_bipush hC 66 (by decide) d_Size_divide_37 ?_
    refine wi_iadd hC d_Size_divide_39 ?_
    refine wi_isub hC d_Size_divide_40 ?_
    refine wp_Size_unit hC ho wd_61 d_Size_divide_41 ?_
    refine wi_nmC (fun s3 e_s3 => ?_)
    refine wi_aload_n hC 0 d_Size_divide_44 rfl rfl ?_
    refine k_Size_normalise hC ho wd_67 (by decide) (Nat.le_of_ble_eq_true rfl) d_Size_divide_45 ?_
    refine wi_nmC (fun s4 e_s4 => ?_)
    have hf : f_Size_divide σ o a1 = s4 := by subst e_s4; subst e_s3; subst e_s2; subst e_t1; subst e_s1; exact rfl
    exact wi_vret hC hr hk d_Size_divide_48 rfl (congrArg (fun z => (z, τ, q)) hf).symm hQ
  refine wi_lcmp_eq hC 24 d_Size_divide_16 d_Size_divide_17 (by decide) (fun h1 => ?_) (fun h1 => ?_)
  · skip
    refine wi_iconst hC 0 (by decide) d_Size_divide_24 ?_
    exact Jt1 false (by exact (Eq.trans eTt1 (if_pos h1)))
  · skip
    refine wi_iconst hC 1 (by decide) d_Size_divide_20 ?_
    refine wi_goto hC 25 d_Size_divide_21 (by decide) ?_
    exact Jt1 true (by exact (Eq.trans eTt1 (if_neg h1)))
theorem k_Size_divide {p : Program} {l : Launch} {e : Env} {R : Room} {s : State} {m : MethodId} {args : Array Value} {below : List Frame} {meth : Method} {c : Code} {Q : State → Prop} {E : Ev} {nL pc index : Nat} {lv : List (Nat × Value)} {rest : List Value} {cc : ByteArray} {own : String} {σ τ : St} {q : Int64} {o : Nat} {a1 : Nat} (hC : Cx p s m args c cc nL own E)  (ho : isSize o) (ha1 : isSize a1) (hl : Cond.methodLink own index y_Size_divide ∈ WL) (hR : 2 + 1 ≤ R.frames ∧ 8 + (2 + 11) + 48 ≤ R.locals) (hs8 : (rest.map fun v => v.category).sum ≤ 8) (d : decode cc pc = .ok (.invokevirtual index, 3)) (k : WS p l e R s m args below meth c Q E nL (pc + 3) lv rest ((f_Size_divide σ o a1), τ, q)) : WS p l e R s m args below meth c Q E nL pc lv (.ref a1 :: .ref o :: rest) (σ, τ, q) := by
  exact wi_callV hC (n := 1) (vs := [.ref a1]) (rest := rest) o 3 (lt_Size ho) (wc_Size ho) rfl rfl (c_Size_divide l E σ τ q o a1 ho ha1) (by decide +kernel) wd_109 wd_63 wd_110 wd_111 ⟨rfl, rfl⟩ rfl rfl hl hR hs8 d k
set_option maxRecDepth 100000 in
set_option maxHeartbeats 400000 in
theorem c_Size_root (l : Launch) (E : Ev) (σ τ : St) (q : Int64) (o : Nat) (ho : isSize o) : MF l y_Size_root prog_8_method_16_code 14 none { frames := 1, cells := 0, slots := 0, locals := 23 } E [.ref o] (σ, τ, q) none ((f_Size_root σ o), τ, q) := by
  refine MF_intro (lv0 := [(0, .ref o)]) (by decide) wd_112 (Nat.le_of_ble_eq_true rfl) rfl ?_
  intro p e s m args below meth c Q hC hr hk hQ
  replace hC : Cx p s m args c prog_8_method_16_code 14 "PartnerStack$Size" E := hC
  refine wi_aload_n hC 0 d_Size_root_0 rfl rfl ?_
  refine wg_Size_high hC ho wd_59 d_Size_root_1 ?_
  refine wi_nmJ (fun v1 e_v1 => ?_)
  refine wi_lstore_n hC [(1, .long v1), (0, .ref o)] d_Size_root_4 rfl (by decide) rfl ?_
  refine wi_aload_n hC 1 d_Size_root_5 rfl rfl ?_
  refine wg_Size_unit hC ho wd_61 d_Size_root_6 ?_
  refine wi_iconst hC 1 (by decide) d_Size_root_9 ?_
  refine wi_iand hC d_Size_root_10 ?_
  obtain ⟨Tt1, eTt1⟩ : ∃ y : Bool, y = (
          if (gI σ 11 o) &&& 1 = 0 then
            false
          else
            true) := ⟨_, rfl⟩
  have Jt1 : ∀ (t1 : Bool), Tt1 = t1 → WS p l e { frames := 1, cells := 0, slots := 0, locals := 23 } s m args below meth c Q E 14 19 [(1, .long v1), (0, .ref o)] [.int (bI t1)] (σ, τ, q) := by
    intro t1  e_t1
    rw [eTt1] at e_t1
    refine wi_istore_n hC [(3, .int (bI t1)), (1, .long v1), (0, .ref o)] d_Size_root_19 rfl (by decide) rfl ?_
    refine wi_lconst hC 0 (by decide) d_Size_root_20 ?_
    refine wi_lstore hC [(4, .long 0), (3, .int (bI t1)), (1, .long v1), (0, .ref o)] d_Size_root_21 (by decide) rfl ?_
    refine wi_lconst hC 0 (by decide) d_Size_root_23 ?_
    refine wi_lstore hC [(6, .long 0), (4, .long 0), (3, .int (bI t1)), (1, .long v1), (0, .ref o)] d_Size_root_24 (by decide) rfl ?_
    refine wi_aload_n hC 4 d_Size_root_26 rfl rfl ?_
    refine wi_lconst hC 0 (by decide) d_Size_root_27 ?_
    refine wp_Size_high hC ho wd_59 d_Size_root_28 ?_
    refine wi_nmC (fun s1 e_s1 => ?_)
    refine wi_aload_n hC 4 d_Size_root_31 rfl rfl ?_
    refine wi_lconst hC 0 (by decide) d_Size_root_32 ?_
    refine wp_Size_low hC ho wd_60 d_Size_root_33 ?_
    refine wi_nmC (fun s2 e_s2 => ?_)
    refine wi_iconst hC 0 (by decide) d_Size_root_36 ?_
    refine wi_istore hC [(8, .int 0), (6, .long 0), (4, .long 0), (3, .int (bI t1)), (1, .long v1), (0, .ref o)] d_Size_root_37 (by decide) rfl ?_
    refine wi_lv [0, 1, 2, 4, 3, 5] [(8, .int 0), (6, .long 0), (4, .long 0), (1, .long v1), (3, .int (bI t1)), (0, .ref o)] rfl ?_
    refine wi_loop ((b_Size_root_39 o t1)) (fun t3 => 0 ≤ (t3.1).toInt) (fun t3 => [(8, .int t3.1), (6, .long t3.2.1), (4, .long t3.2.2.1), (1, .long t3.2.2.2.1), (3, .int (bI t1)), (0, .ref o)]) (fun t3 => (t3.2.2.2.2, τ, q)) 220 ?_ (up_inv (b := (b_Size_root_39 o t1)) (fun t => t.1) 66 0 (st_b_Size_root_39 o t1)) (upf 66 0) (0, 0, 0, v1, s2) (show (0 : Int) ≤ (0 : Int32).toInt by decide) (up_halt (b := (b_Size_root_39 o t1)) (fun t => t.1) 66 (st_b_Size_root_39 o t1) (0, 0, 0, v1, s2)) ?_
    · intro t3 hi_t3 hc_t3 hx_t3
      refine wi_iload hC 0 d_Size_root_39 rfl ?_
      refine wi_bipush hC 66 (by decide) d_Size_root_41 ?_
      refine wi_icmp_ge hC 220 d_Size_root_43 (by decide) (fun h2 => ?_) (fun h2 => ?_)
      · skip
        exact hx_t3 (t3.1, t3.2.1, t3.2.2.1, t3.2.2.2.1, t3.2.2.2.2) (by exact (if_pos h2))
      · skip
        refine wi_iload_n hC 4 d_Size_root_46 rfl rfl ?_
        obtain ⟨Tt4, eTt4⟩ : ∃ y : Int32, y = (
                if t1 = true then
                  if t3.1 = 0 then
                    1
                  else
                    2
                else
                  2) := ⟨_, rfl⟩
        have Jt4 : ∀ (t4 : Int32), Tt4 = t4 → WS p l e { frames := 1, cells := 0, slots := 0, locals := 23 } s m args below meth c Q E 14 60 [(8, .int t3.1), (6, .long t3.2.1), (4, .long t3.2.2.1), (1, .long t3.2.2.2.1), (3, .int (bI t1)), (0, .ref o)] [.int t4] (t3.2.2.2.2, τ, q) := by
          intro t4  e_t4
          rw [eTt4] at e_t4
          refine wi_istore hC [(9, .int t4), (8, .int t3.1), (6, .long t3.2.1), (4, .long t3.2.2.1), (1, .long t3.2.2.2.1), (3, .int (bI t1)), (0, .ref o)] d_Size_root_60 (by decide) rfl ?_
          refine wi_lload hC 3 d_Size_root_62 rfl ?_
          refine wi_iconst hC 2 (by decide) d_Size_root_64 ?_
          refine wi_lshl hC d_Size_root_65 ?_
          refine wi_lload hC 2 d_Size_root_66 rfl ?_
          refine wi_bipush hC 62 (by decide) d_Size_root_68 ?_
          refine wi_lushr hC d_Size_root_70 ?_
          refine wi_lor hC d_Size_root_71 ?_
          refine wi_nmJ (fun v2 e_v2 => ?_)
          refine wi_lstore hC [(4, .long v2), (9, .int t4), (8, .int t3.1), (6, .long t3.2.1), (1, .long t3.2.2.2.1), (3, .int (bI t1)), (0, .ref o)] d_Size_root_72 (by decide) rfl ?_
          refine wi_lload hC 3 d_Size_root_74 rfl ?_
          refine wi_iconst hC 2 (by decide) d_Size_root_76 ?_
          refine wi_lshl hC d_Size_root_77 ?_
          refine wi_lload_n hC 4 d_Size_root_78 rfl rfl ?_
          refine wi_bipush hC 64 (by decide) d_Size_root_79 ?_
          refine wi_iload hC 1 d_Size_root_81 rfl ?_
          refine wi_isub hC d_Size_root_83 ?_
          refine wi_lushr hC d_Size_root_84 ?_
          refine wi_lor hC d_Size_root_85 ?_
          refine wi_nmJ (fun v3 e_v3 => ?_)
          refine wi_lstore hC [(6, .long v3), (4, .long v2), (9, .int t4), (8, .int t3.1), (1, .long t3.2.2.2.1), (3, .int (bI t1)), (0, .ref o)] d_Size_root_86 (by decide) rfl ?_
          refine wi_lload_n hC 4 d_Size_root_88 rfl rfl ?_
          refine wi_iload hC 2 d_Size_root_89 rfl ?_
          refine wi_lshl hC d_Size_root_91 ?_
          refine wi_nmJ (fun v4 e_v4 => ?_)
          refine wi_lstore_n hC [(1, .long v4), (6, .long v3), (4, .long v2), (9, .int t4), (8, .int t3.1), (3, .int (bI t1)), (0, .ref o)] d_Size_root_92 rfl (by decide) rfl ?_
          refine wi_aload_n hC 6 d_Size_root_93 rfl rfl ?_
          refine wg_Size_high hC ho wd_59 d_Size_root_94 ?_
          refine wi_iconst hC 2 (by decide) d_Size_root_97 ?_
          refine wi_lshl hC d_Size_root_98 ?_
          refine wi_aload_n hC 6 d_Size_root_99 rfl rfl ?_
          refine wg_Size_low hC ho wd_60 d_Size_root_100 ?_
          refine wi_bipush hC 62 (by decide) d_Size_root_103 ?_
          refine wi_lushr hC d_Size_root_105 ?_
          refine wi_lor hC d_Size_root_106 ?_
          refine wi_nmJ (fun v5 e_v5 => ?_)
          refine wi_lstore hC [(10, .long v5), (1, .long v4), (6, .long v3), (4, .long v2), (9, .int t4), (8, .int t3.1), (3, .int (bI t1)), (0, .ref o)] d_Size_root_107 (by decide) rfl ?_
          refine wi_aload_n hC 7 d_Size_root_109 rfl rfl ?_
          refine wg_Size_low hC ho wd_60 d_Size_root_110 ?_
          refine wi_iconst hC 2 (by decide) d_Size_root_113 ?_
          refine wi_lshl hC d_Size_root_114 ?_
          refine wi_lconst hC 1 (by decide) d_Size_root_115 ?_
          refine wi_lor hC d_Size_root_116 ?_
          refine wi_nmJ (fun v6 e_v6 => ?_)
          refine wi_lstore hC [(12, .long v6), (10, .long v5), (1, .long v4), (6, .long v3), (4, .long v2), (9, .int t4), (8, .int t3.1), (3, .int (bI t1)), (0, .ref o)] d_Size_root_117 (by decide) rfl ?_
          refine wi_aload_n hC 8 d_Size_root_119 rfl rfl ?_
          refine wi_aload_n hC 8 d_Size_root_120 rfl rfl ?_
          refine wg_Size_high hC ho wd_59 d_Size_root_121 ?_
          refine wi_iconst hC 1 (by decide) d_Size_root_124 ?_
          refine wi_lshl hC d_Size_root_125 ?_
          refine wi_aload_n hC 8 d_Size_root_126 rfl rfl ?_
          refine wg_Size_low hC ho wd_60 d_Size_root_127 ?_
          refine wi_bipush hC 63 (by decide) d_Size_root_130 ?_
          refine wi_lushr hC d_Size_root_132 ?_
          refine wi_lor hC d_Size_root_133 ?_
          refine wp_Size_high hC ho wd_59 d_Size_root_134 ?_
          refine wi_nmC (fun s3 e_s3 => ?_)
          refine wi_aload_n hC 8 d_Size_root_137 rfl rfl ?_
          refine wi_dup hC rfl d_Size_root_138 ?_
          refine wg_Size_low hC ho wd_60 d_Size_root_139 ?_
          refine wi_iconst hC 1 (by decide) d_Size_root_142 ?_
          refine wi_lshl hC d_Size_root_143 ?_
          refine wp_Size_low hC ho wd_60 d_Size_root_144 ?_
          refine wi_nmC (fun s4 e_s4 => ?_)
          refine wi_lload hC 4 d_Size_root_147 rfl ?_
          refine wi_lload hC 1 d_Size_root_149 rfl ?_
          obtain ⟨Tt5, eTt5⟩ : ∃ y : Int64 × Int64 × St, y = (
                  if v5 < v2 then
                    f_Size_root_b173 o v2 v3 v5 v6 s4
                  else
                    if v2 = v5 then
                      if f_Size_isBelow v3 v6 = true then
                        (v3, v2, s4)
                      else
                        f_Size_root_b173 o v2 v3 v5 v6 s4
                    else
                      (v3, v2, s4)) := ⟨_, rfl⟩
          have Jt5 : ∀ (t5 : Int64 × Int64 × St), Tt5 = t5 → WS p l e { frames := 1, cells := 0, slots := 0, locals := 23 } s m args below meth c Q E 14 214 [(12, .long v6), (10, .long v5), (1, .long v4), (6, .long t5.1), (4, .long t5.2.1), (9, .int t4), (8, .int t3.1), (3, .int (bI t1)), (0, .ref o)] [] (t5.2.2, τ, q) := by
            intro t5  e_t5
            rw [eTt5] at e_t5
            obtain ⟨v9, e_v9⟩ : ∃ y : Int32, t3.1 + 1 = y := ⟨_, rfl⟩
            refine wi_iinc hC 6 v9 [(8, .int v9), (12, .long v6), (10, .long v5), (1, .long v4), (6, .long t5.1), (4, .long t5.2.1), (9, .int t4), (3, .int (bI t1)), (0, .ref o)] d_Size_root_214 rfl (by rw [← e_v9]; rfl) (by decide) rfl ?_
            refine wi_goto hC 39 d_Size_root_217 (by decide) ?_
            refine wi_lv [0, 4, 5, 3, 7, 8] [(8, .int v9), (6, .long t5.1), (4, .long t5.2.1), (1, .long v4), (3, .int (bI t1)), (0, .ref o)] rfl ?_
            exact hc_t3 (v9, t5.1, t5.2.1, v4, t5.2.2) (by subst e_v9; subst e_t5; subst e_s4; subst e_s3; subst e_v6; subst e_v5; subst e_v4; subst e_v3; subst e_v2; subst e_t4; exact (if_neg h2))
          have B1 : Tt5 = f_Size_root_b173 o v2 v3 v5 v6 s4 → WS p l e { frames := 1, cells := 0, slots := 0, locals := 23 } s m args below meth c Q E 14 173 [(12, .long v6), (10, .long v5), (1, .long v4), (6, .long v3), (4, .long v2), (9, .int t4), (8, .int t3.1), (3, .int (bI t1)), (0, .ref o)] [] (s4, τ, q) := by
            intro hB1
            refine wi_lload hC 4 d_Size_root_173 rfl ?_
            refine wi_lload hC 1 d_Size_root_175 rfl ?_
            refine wi_lload hC 3 d_Size_root_177 rfl ?_
            refine wi_lload hC 0 d_Size_root_179 rfl ?_
            refine k_Size_isBelow hC  wd_83 (by decide) (Nat.le_of_ble_eq_true rfl) d_Size_root_181 ?_
            obtain ⟨Tt6, eTt6⟩ : ∃ y : Bool, y = (
                    if f_Size_isBelow v3 v6 = true then
                      true
                    else
                      false) := ⟨_, rfl⟩
            have Jt6 : ∀ (t6 : Bool), Tt6 = t6 → WS p l e { frames := 1, cells := 0, slots := 0, locals := 23 } s m args below meth c Q E 14 192 [(12, .long v6), (10, .long v5), (1, .long v4), (6, .long v3), (4, .long v2), (9, .int t4), (8, .int t3.1), (3, .int (bI t1)), (0, .ref o)] [.int (bI t6), .long v5, .long v2] (s4, τ, q) := by
              intro t6  e_t6
              rw [eTt6] at e_t6
              refine wi_i2l hC d_Size_root_192 ?_
              refine wi_ladd hC d_Size_root_193 ?_
              refine wi_lsub hC d_Size_root_194 ?_
              refine wi_nmJ (fun v7 e_v7 => ?_)
              refine wi_lstore hC [(4, .long v7), (12, .long v6), (10, .long v5), (1, .long v4), (6, .long v3), (9, .int t4), (8, .int t3.1), (3, .int (bI t1)), (0, .ref o)] d_Size_root_195 (by decide) rfl ?_
              refine wi_lload hC 4 d_Size_root_197 rfl ?_
              refine wi_lload hC 1 d_Size_root_199 rfl ?_
              refine wi_lsub hC d_Size_root_201 ?_
              refine wi_nmJ (fun v8 e_v8 => ?_)
              refine wi_lstore hC [(6, .long v8), (4, .long v7), (12, .long v6), (10, .long v5), (1, .long v4), (9, .int t4), (8, .int t3.1), (3, .int (bI t1)), (0, .ref o)] d_Size_root_202 (by decide) rfl ?_
              refine wi_aload_n hC 8 d_Size_root_204 rfl rfl ?_
              refine wi_dup hC rfl d_Size_root_205 ?_
              refine wg_Size_low hC ho wd_60 d_Size_root_206 ?_
              refine wi_lconst hC 1 (by decide) d_Size_root_209 ?_
              refine wi_lor hC d_Size_root_210 ?_
              refine wp_Size_low hC ho wd_60 d_Size_root_211 ?_
              refine wi_nmC (fun s5 e_s5 => ?_)
              refine wi_lv [2, 3, 4, 0, 1, 5, 6, 7, 8] [(12, .long v6), (10, .long v5), (1, .long v4), (6, .long v8), (4, .long v7), (9, .int t4), (8, .int t3.1), (3, .int (bI t1)), (0, .ref o)] rfl ?_
              exact Jt5 (v8, v7, s5) (by subst e_s5; subst e_v8; subst e_v7; subst e_t6; exact hB1)
            refine wi_z_eq (b := (f_Size_isBelow v3 v6)) hC 191 d_Size_root_184 (by decide) (fun h8 => ?_) (fun h8 => ?_)
            · skip
              refine wi_iconst hC 0 (by decide) d_Size_root_191 ?_
              exact Jt6 false (by exact (Eq.trans eTt6 (if_neg h8)))
            · skip
              refine wi_iconst hC 1 (by decide) d_Size_root_187 ?_
              refine wi_goto hC 192 d_Size_root_188 (by decide) ?_
              exact Jt6 true (by exact (Eq.trans eTt6 (if_pos h8)))
          refine wi_lcmp_gt hC 173 d_Size_root_151 d_Size_root_152 (by decide) (fun h5 => ?_) (fun h5 => ?_)
          · skip
            exact B1   (by exact (Eq.trans eTt5 (if_pos h5)))
          · skip
            refine wi_lload hC 4 d_Size_root_155 rfl ?_
            refine wi_lload hC 1 d_Size_root_157 rfl ?_
            refine wi_lcmp_ne hC 214 d_Size_root_159 d_Size_root_160 (by decide) (fun h6 => ?_) (fun h6 => ?_)
            · skip
              exact Jt5 (v3, v2, s4) (by exact (Eq.trans eTt5 (Eq.trans (if_neg h5) (if_neg h6))))
            · skip
              refine wi_lload hC 3 d_Size_root_163 rfl ?_
              refine wi_lload hC 0 d_Size_root_165 rfl ?_
              refine k_Size_isBelow hC  wd_83 (by decide) (Nat.le_of_ble_eq_true rfl) d_Size_root_167 ?_
              refine wi_z_ne (b := (f_Size_isBelow v3 v6)) hC 214 d_Size_root_170 (by decide) (fun h7 => ?_) (fun h7 => ?_)
              · skip
                exact Jt5 (v3, v2, s4) (by exact (Eq.trans eTt5 (Eq.trans (if_neg h5) (Eq.trans (if_pos h6) (if_pos h7)))))
              · skip
                exact B1   (by exact (Eq.trans eTt5 (Eq.trans (if_neg h5) (Eq.trans (if_pos h6) (if_neg h7)))))
        refine wi_z_eq (b := t1) hC 59 d_Size_root_47 (by decide) (fun h3 => ?_) (fun h3 => ?_)
        · skip
          refine wi_iconst hC 2 (by decide) d_Size_root_59 ?_
          exact Jt4 2 (by exact (Eq.trans eTt4 (if_neg h3)))
        · skip
          refine wi_iload hC 0 d_Size_root_50 rfl ?_
          refine wi_if_ne hC 59 d_Size_root_52 (by decide) (fun h4 => ?_) (fun h4 => ?_)
          · skip
            refine wi_iconst hC 2 (by decide) d_Size_root_59 ?_
            exact Jt4 2 (by exact (Eq.trans eTt4 (Eq.trans (if_pos h3) (if_neg h4))))
          · skip
            refine wi_iconst hC 1 (by decide) d_Size_root_55 ?_
            refine wi_goto hC 60 d_Size_root_56 (by decide) ?_
            exact Jt4 1 (by exact (Eq.trans eTt4 (Eq.trans (if_pos h3) (if_pos h4))))
    obtain ⟨t2, e_t2⟩ : ∃ y : Int32 × Int64 × Int64 × Int64 × St, lpn ((b_Size_root_39 o t1)) (upf 66 0) (0, 0, 0, v1, s2) = y := ⟨_, rfl⟩
    rw [e_t2]
    refine wi_aload_n hC 5 d_Size_root_220 rfl rfl ?_
    refine wi_lload hC 2 d_Size_root_221 rfl ?_
    refine wi_lconst hC 0 (by decide) d_Size_root_223 ?_
    obtain ⟨Tt7, eTt7⟩ : ∃ y : Bool, y = (
            if t2.2.2.1 = 0 then
              if t2.2.1 = 0 then
                false
              else
                true
            else
              true) := ⟨_, rfl⟩
    have Jt7 : ∀ (t7 : Bool), Tt7 = t7 → WS p l e { frames := 1, cells := 0, slots := 0, locals := 23 } s m args below meth c Q E 14 240 [(8, .int t2.1), (6, .long t2.2.1), (4, .long t2.2.2.1), (1, .long t2.2.2.2.1), (3, .int (bI t1)), (0, .ref o)] [.int (bI t7), .ref o] (t2.2.2.2.2, τ, q) := by
      intro t7  e_t7
      rw [eTt7] at e_t7
      refine wp_Size_more hC ho t7 rfl wd_66 d_Size_root_240 ?_
      refine wi_nmC (fun s6 e_s6 => ?_)
      refine wi_aload_n hC 5 d_Size_root_243 rfl rfl ?_
      refine wi_aload_n hC 5 d_Size_root_244 rfl rfl ?_
      refine wg_Size_unit hC ho wd_61 d_Size_root_245 ?_
      refine wi_bipush hC 64 (by decide) d_Size_root_248 ?_
      refine wi_iadd hC d_Size_root_250 ?_
      refine wi_iload_n hC 4 d_Size_root_251 rfl rfl ?_
      obtain ⟨Tt8, eTt8⟩ : ∃ y : Int32, y = (
              if t1 = true then
                67
              else
                68) := ⟨_, rfl⟩
      have Jt8 : ∀ (t8 : Int32), Tt8 = t8 → WS p l e { frames := 1, cells := 0, slots := 0, locals := 23 } s m args below meth c Q E 14 262 [(8, .int t2.1), (6, .long t2.2.1), (4, .long t2.2.2.1), (1, .long t2.2.2.2.1), (3, .int (bI t1)), (0, .ref o)] [.int t8, .int ((gI s6 11 o) + 64), .ref o] (s6, τ, q) := by
        intro t8  e_t8
        rw [eTt8] at e_t8
        refine wi_isub hC d_Size_root_262 ?_
        refine wi_iconst hC 1 (by decide) d_Size_root_263 ?_
        refine wi_ishr hC d_Size_root_264 ?_
        refine wp_Size_unit hC ho wd_61 d_Size_root_265 ?_
        refine wi_nmC (fun s7 e_s7 => ?_)
        refine wi_aload_n hC 5 d_Size_root_268 rfl rfl ?_
        refine k_Size_normalise hC ho wd_67 (by decide) (Nat.le_of_ble_eq_true rfl) d_Size_root_269 ?_
        refine wi_nmC (fun s8 e_s8 => ?_)
        have hf : f_Size_root σ o = s8 := by subst e_s8; subst e_s7; subst e_t8; subst e_s6; subst e_t7; subst e_t2; subst e_s2; subst e_s1; subst e_t1; subst e_v1; exact rfl
        exact wi_vret hC hr hk d_Size_root_272 rfl (congrArg (fun z => (z, τ, q)) hf).symm hQ
      refine wi_z_eq (b := t1) hC 260 d_Size_root_252 (by decide) (fun h11 => ?_) (fun h11 => ?_)
      · skip
        refine wi_bipush hC 68 (by decide) d_Size_root_260 ?_
        exact Jt8 68 (by exact (Eq.trans eTt8 (if_neg h11)))
      · skip
        refine wi_bipush hC 67 (by decide) d_Size_root_255 ?_
        refine wi_goto hC 262 d_Size_root_257 (by decide) ?_
        exact Jt8 67 (by exact (Eq.trans eTt8 (if_pos h11)))
    refine wi_lcmp_ne hC 235 d_Size_root_224 d_Size_root_225 (by decide) (fun h9 => ?_) (fun h9 => ?_)
    · skip
      refine wi_iconst hC 1 (by decide) d_Size_root_235 ?_
      refine wi_goto hC 240 d_Size_root_236 (by decide) ?_
      exact Jt7 true (by exact (Eq.trans eTt7 (if_neg h9)))
    · skip
      refine wi_lload hC 1 d_Size_root_228 rfl ?_
      refine wi_lconst hC 0 (by decide) d_Size_root_230 ?_
      refine wi_lcmp_eq hC 239 d_Size_root_231 d_Size_root_232 (by decide) (fun h10 => ?_) (fun h10 => ?_)
      · skip
        refine wi_iconst hC 0 (by decide) d_Size_root_239 ?_
        exact Jt7 false (by exact (Eq.trans eTt7 (Eq.trans (if_pos h9) (if_pos h10))))
      · skip
        refine wi_iconst hC 1 (by decide) d_Size_root_235 ?_
        refine wi_goto hC 240 d_Size_root_236 (by decide) ?_
        exact Jt7 true (by exact (Eq.trans eTt7 (Eq.trans (if_pos h9) (if_neg h10))))
  refine wi_if_eq hC 18 d_Size_root_11 (by decide) (fun h1 => ?_) (fun h1 => ?_)
  · skip
    refine wi_iconst hC 0 (by decide) d_Size_root_18 ?_
    exact Jt1 false (by exact (Eq.trans eTt1 (if_pos h1)))
  · skip
    refine wi_iconst hC 1 (by decide) d_Size_root_14 ?_
    refine wi_goto hC 19 d_Size_root_15 (by decide) ?_
    exact Jt1 true (by exact (Eq.trans eTt1 (if_neg h1)))
theorem k_Size_root {p : Program} {l : Launch} {e : Env} {R : Room} {s : State} {m : MethodId} {args : Array Value} {below : List Frame} {meth : Method} {c : Code} {Q : State → Prop} {E : Ev} {nL pc index : Nat} {lv : List (Nat × Value)} {rest : List Value} {cc : ByteArray} {own : String} {σ τ : St} {q : Int64} {o : Nat} (hC : Cx p s m args c cc nL own E)  (ho : isSize o) (hl : Cond.methodLink own index y_Size_root ∈ WL) (hR : 1 + 1 ≤ R.frames ∧ 8 + (14 + 11) + 23 ≤ R.locals) (hs8 : (rest.map fun v => v.category).sum ≤ 8) (d : decode cc pc = .ok (.invokevirtual index, 3)) (k : WS p l e R s m args below meth c Q E nL (pc + 3) lv rest ((f_Size_root σ o), τ, q)) : WS p l e R s m args below meth c Q E nL pc lv (.ref o :: rest) (σ, τ, q) := by
  exact wi_callV hC (n := 0) (vs := []) (rest := rest) o 3 (lt_Size ho) (wc_Size ho) rfl rfl (c_Size_root l E σ τ q o ho) (by decide +kernel) wd_112 wd_63 wd_113 wd_114 ⟨rfl, rfl⟩ rfl rfl hl hR hs8 d k
set_option maxRecDepth 100000 in
set_option maxHeartbeats 400000 in
theorem c_Size_isNothing (l : Launch) (E : Ev) (σ τ : St) (q : Int64) (o : Nat) (ho : isSize o) : MF l y_Size_isNothing prog_8_method_2_code 1 (some .boolean) { frames := 0, cells := 0, slots := 0, locals := 0 } E [.ref o] (σ, τ, q) (some (.int (bI (f_Size_isNothing σ o)))) (σ, τ, q) := by
  refine MF_intro (lv0 := [(0, .ref o)]) (by decide) wd_115 (Nat.le_of_ble_eq_true rfl) rfl ?_
  intro p e s m args below meth c Q hC hr hk hQ
  replace hC : Cx p s m args c prog_8_method_2_code 1 "PartnerStack$Size" E := hC
  refine wi_aload_n hC 0 d_Size_isNothing_0 rfl rfl ?_
  refine wg_Size_high hC ho wd_59 d_Size_isNothing_1 ?_
  refine wi_lconst hC 0 (by decide) d_Size_isNothing_4 ?_
  obtain ⟨Tt1, eTt1⟩ : ∃ y : Bool, y = (
          if gJ σ 8 o = 0 then
            if gJ σ 9 o = 0 then
              true
            else
              false
          else
            false) := ⟨_, rfl⟩
  have Jt1 : ∀ (t1 : Bool), Tt1 = t1 → WS p l e { frames := 0, cells := 0, slots := 0, locals := 0 } s m args below meth c Q E 1 23 [(0, .ref o)] [.int (bI t1)] (σ, τ, q) := by
    intro t1  e_t1
    rw [eTt1] at e_t1
    have hf : f_Size_isNothing σ o = t1 := by subst e_t1; exact rfl
    exact wi_zret hC hr hk d_Size_isNothing_23 rfl (congrArg (fun z => some (Value.int (bI z))) hf) rfl hQ
  refine wi_lcmp_ne hC 22 d_Size_isNothing_5 d_Size_isNothing_6 (by decide) (fun h1 => ?_) (fun h1 => ?_)
  · skip
    refine wi_iconst hC 0 (by decide) d_Size_isNothing_22 ?_
    exact Jt1 false (by exact (Eq.trans eTt1 (if_neg h1)))
  · skip
    refine wi_aload_n hC 0 d_Size_isNothing_9 rfl rfl ?_
    refine wg_Size_low hC ho wd_60 d_Size_isNothing_10 ?_
    refine wi_lconst hC 0 (by decide) d_Size_isNothing_13 ?_
    refine wi_lcmp_ne hC 22 d_Size_isNothing_14 d_Size_isNothing_15 (by decide) (fun h2 => ?_) (fun h2 => ?_)
    · skip
      refine wi_iconst hC 0 (by decide) d_Size_isNothing_22 ?_
      exact Jt1 false (by exact (Eq.trans eTt1 (Eq.trans (if_pos h1) (if_neg h2))))
    · skip
      refine wi_iconst hC 1 (by decide) d_Size_isNothing_18 ?_
      refine wi_goto hC 23 d_Size_isNothing_19 (by decide) ?_
      exact Jt1 true (by exact (Eq.trans eTt1 (Eq.trans (if_pos h1) (if_pos h2))))
theorem k_Size_isNothing {p : Program} {l : Launch} {e : Env} {R : Room} {s : State} {m : MethodId} {args : Array Value} {below : List Frame} {meth : Method} {c : Code} {Q : State → Prop} {E : Ev} {nL pc index : Nat} {lv : List (Nat × Value)} {rest : List Value} {cc : ByteArray} {own : String} {σ τ : St} {q : Int64} {o : Nat} (hC : Cx p s m args c cc nL own E)  (ho : isSize o) (hl : Cond.methodLink own index y_Size_isNothing ∈ WL) (hR : 0 + 1 ≤ R.frames ∧ 8 + (1 + 11) + 0 ≤ R.locals) (hs8 : (rest.map fun v => v.category).sum ≤ 8) (d : decode cc pc = .ok (.invokevirtual index, 3)) (k : WS p l e R s m args below meth c Q E nL (pc + 3) lv ((.int (bI (f_Size_isNothing σ o))) :: rest) (σ, τ, q)) : WS p l e R s m args below meth c Q E nL pc lv (.ref o :: rest) (σ, τ, q) := by
  exact wi_callV hC (n := 0) (vs := []) (rest := rest) o 3 (lt_Size ho) (wc_Size ho) rfl rfl (c_Size_isNothing l E σ τ q o ho) (by decide +kernel) wd_115 wd_63 wd_116 wd_117 ⟨rfl, rfl⟩ rfl rfl hl hR hs8 d k
set_option maxRecDepth 100000 in
set_option maxHeartbeats 400000 in
theorem c_Size_roundsUp (l : Launch) (E : Ev) (σ τ : St) (q : Int64) (o : Nat) (a1 : Int64) (a2 : Bool) (a3 : Int32) (a4 : Bool) (ho : isSize o) : MF l y_Size_roundsUp prog_8_method_18_code 7 (some .boolean) { frames := 0, cells := 0, slots := 0, locals := 0 } E [.ref o, .long a1, .int (bI a2), .int a3, .int (bI a4)] (σ, τ, q) (some (.int (bI (f_Size_roundsUp σ o a1 a2 a3 a4)))) (σ, τ, q) := by
  refine MF_intro (lv0 := [(0, .ref o), (1, .long a1), (3, .int (bI a2)), (4, .int a3), (5, .int (bI a4))]) (by decide) wd_119 (Nat.le_of_ble_eq_true rfl) rfl ?_
  intro p e s m args below meth c Q hC hr hk hQ
  replace hC : Cx p s m args c prog_8_method_18_code 7 "PartnerStack$Size" E := hC
  refine wi_lload_n hC 1 d_Size_roundsUp_0 rfl rfl ?_
  refine wi_ldc2 hC wd_80 d_Size_roundsUp_1 ?_
  obtain ⟨Tt1, eTt1⟩ : ∃ y : Bool, y = (
          if a1 = (-9223372036854775808) then
            if a2 = true then
              false
            else
              true
          else
            false) := ⟨_, rfl⟩
  have Jt1 : ∀ (t1 : Bool), Tt1 = t1 → WS p l e { frames := 0, cells := 0, slots := 0, locals := 0 } s m args below meth c Q E 7 17 [(0, .ref o), (1, .long a1), (3, .int (bI a2)), (4, .int a3), (5, .int (bI a4))] [.int (bI t1)] (σ, τ, q) := by
    intro t1  e_t1
    rw [eTt1] at e_t1
    refine wi_istore hC [(6, .int (bI t1)), (0, .ref o), (1, .long a1), (3, .int (bI a2)), (4, .int a3), (5, .int (bI a4))] d_Size_roundsUp_17 (by decide) rfl ?_
    refine wi_iload hC 4 d_Size_roundsUp_19 rfl ?_
    refine wi_by (a3 = 0) (fun h3 => ?_) (fun h3 => ?_)
    · skip
      refine wi_tsIn hC 0 56 d_Size_roundsUp_21 (by rw [h3]; decide) (by decide) rfl (by decide) ?_
      refine wi_lload_n hC 2 d_Size_roundsUp_56 rfl rfl ?_
      refine wi_lconst hC 0 (by decide) d_Size_roundsUp_57 ?_
      obtain ⟨Tt2, eTt2⟩ : ∃ y : Bool, y = (
              if 0 ≤ a1 then
                false
              else
                if t1 = true then
                  if (gJ σ 12 o) &&& 1 = 0 then
                    false
                  else
                    true
                else
                  true) := ⟨_, rfl⟩
      have Jt2 : ∀ (t2 : Bool), Tt2 = t2 → WS p l e { frames := 0, cells := 0, slots := 0, locals := 0 } s m args below meth c Q E 7 83 [(6, .int (bI t1)), (0, .ref o), (1, .long a1), (3, .int (bI a2)), (4, .int a3), (5, .int (bI a4))] [.int (bI t2)] (σ, τ, q) := by
        intro t2  e_t2
        rw [eTt2] at e_t2
        have hf : f_Size_roundsUp σ o a1 a2 a3 a4 = t2 := by subst e_t2; subst e_t1; exact (if_pos h3)
        exact wi_zret hC hr hk d_Size_roundsUp_83 rfl (congrArg (fun z => some (Value.int (bI z))) hf) rfl hQ
      refine wi_lcmp_ge hC 82 d_Size_roundsUp_58 d_Size_roundsUp_59 (by decide) (fun h4 => ?_) (fun h4 => ?_)
      · skip
        refine wi_iconst hC 0 (by decide) d_Size_roundsUp_82 ?_
        exact Jt2 false (by exact (Eq.trans eTt2 (if_pos h4)))
      · skip
        refine wi_iload hC 0 d_Size_roundsUp_62 rfl ?_
        refine wi_z_eq (b := t1) hC 78 d_Size_roundsUp_64 (by decide) (fun h5 => ?_) (fun h5 => ?_)
        · skip
          refine wi_iconst hC 1 (by decide) d_Size_roundsUp_78 ?_
          refine wi_goto hC 83 d_Size_roundsUp_79 (by decide) ?_
          exact Jt2 true (by exact (Eq.trans eTt2 (Eq.trans (if_neg h4) (if_neg h5))))
        · skip
          refine wi_aload_n hC 1 d_Size_roundsUp_67 rfl rfl ?_
          refine wg_Size_kept hC ho wd_118 d_Size_roundsUp_68 ?_
          refine wi_lconst hC 1 (by decide) d_Size_roundsUp_71 ?_
          refine wi_land hC d_Size_roundsUp_72 ?_
          refine wi_lconst hC 0 (by decide) d_Size_roundsUp_73 ?_
          refine wi_lcmp_eq hC 82 d_Size_roundsUp_74 d_Size_roundsUp_75 (by decide) (fun h6 => ?_) (fun h6 => ?_)
          · skip
            refine wi_iconst hC 0 (by decide) d_Size_roundsUp_82 ?_
            exact Jt2 false (by exact (Eq.trans eTt2 (Eq.trans (if_neg h4) (Eq.trans (if_pos h5) (if_pos h6)))))
          · skip
            refine wi_iconst hC 1 (by decide) d_Size_roundsUp_78 ?_
            refine wi_goto hC 83 d_Size_roundsUp_79 (by decide) ?_
            exact Jt2 true (by exact (Eq.trans eTt2 (Eq.trans (if_neg h4) (Eq.trans (if_pos h5) (if_neg h6)))))
    · skip
      refine wi_by (a3 = 1) (fun h7 => ?_) (fun h7 => ?_)
      · skip
        refine wi_tsIn hC 1 84 d_Size_roundsUp_21 (by rw [h7]; decide) (by decide) rfl (by decide) ?_
        refine wi_iload hC 5 d_Size_roundsUp_84 rfl ?_
        have hf : f_Size_roundsUp σ o a1 a2 a3 a4 = a4 := by subst e_t1; exact (Eq.trans (if_neg h3) (if_pos h7))
        exact wi_zret hC hr hk d_Size_roundsUp_86 rfl (congrArg (fun z => some (Value.int (bI z))) hf) rfl hQ
      · skip
        refine wi_by (a3 = 2) (fun h8 => ?_) (fun h8 => ?_)
        · skip
          refine wi_tsIn hC 2 87 d_Size_roundsUp_21 (by rw [h8]; decide) (by decide) rfl (by decide) ?_
          refine wi_iload hC 5 d_Size_roundsUp_87 rfl ?_
          obtain ⟨Tt3, eTt3⟩ : ∃ y : Bool, y = (
                  if a4 = true then
                    false
                  else
                    true) := ⟨_, rfl⟩
          have Jt3 : ∀ (t3 : Bool), Tt3 = t3 → WS p l e { frames := 0, cells := 0, slots := 0, locals := 0 } s m args below meth c Q E 7 97 [(6, .int (bI t1)), (0, .ref o), (1, .long a1), (3, .int (bI a2)), (4, .int a3), (5, .int (bI a4))] [.int (bI t3)] (σ, τ, q) := by
            intro t3  e_t3
            rw [eTt3] at e_t3
            have hf : f_Size_roundsUp σ o a1 a2 a3 a4 = t3 := by subst e_t3; subst e_t1; exact (Eq.trans (if_neg h3) (Eq.trans (if_neg h7) (if_pos h8)))
            exact wi_zret hC hr hk d_Size_roundsUp_97 rfl (congrArg (fun z => some (Value.int (bI z))) hf) rfl hQ
          refine wi_z_ne (b := a4) hC 96 d_Size_roundsUp_89 (by decide) (fun h9 => ?_) (fun h9 => ?_)
          · skip
            refine wi_iconst hC 0 (by decide) d_Size_roundsUp_96 ?_
            exact Jt3 false (by exact (Eq.trans eTt3 (if_pos h9)))
          · skip
            refine wi_iconst hC 1 (by decide) d_Size_roundsUp_92 ?_
            refine wi_goto hC 97 d_Size_roundsUp_93 (by decide) ?_
            exact Jt3 true (by exact (Eq.trans eTt3 (if_neg h9)))
        · skip
          refine wi_by (a3 = 3) (fun h10 => ?_) (fun h10 => ?_)
          · skip
            refine wi_tsIn hC 3 115 d_Size_roundsUp_21 (by rw [h10]; decide) (by decide) rfl (by decide) ?_
            refine wi_iconst hC 0 (by decide) d_Size_roundsUp_115 ?_
            have hf : f_Size_roundsUp σ o a1 a2 a3 a4 = false := by subst e_t1; exact (Eq.trans (if_neg h3) (Eq.trans (if_neg h7) (Eq.trans (if_neg h8) (if_pos h10))))
            exact wi_zret hC hr hk d_Size_roundsUp_116 rfl (congrArg (fun z => some (Value.int (bI z))) hf) rfl hQ
          · skip
            refine wi_by (a3 = 4) (fun h11 => ?_) (fun h11 => ?_)
            · skip
              refine wi_tsIn hC 4 98 d_Size_roundsUp_21 (by rw [h11]; decide) (by decide) rfl (by decide) ?_
              refine wi_lload_n hC 2 d_Size_roundsUp_98 rfl rfl ?_
              refine wi_lconst hC 0 (by decide) d_Size_roundsUp_99 ?_
              obtain ⟨Tt4, eTt4⟩ : ∃ y : Bool, y = (
                      if 0 ≤ a1 then
                        false
                      else
                        if t1 = true then
                          false
                        else
                          true) := ⟨_, rfl⟩
              have Jt4 : ∀ (t4 : Bool), Tt4 = t4 → WS p l e { frames := 0, cells := 0, slots := 0, locals := 0 } s m args below meth c Q E 7 114 [(6, .int (bI t1)), (0, .ref o), (1, .long a1), (3, .int (bI a2)), (4, .int a3), (5, .int (bI a4))] [.int (bI t4)] (σ, τ, q) := by
                intro t4  e_t4
                rw [eTt4] at e_t4
                have hf : f_Size_roundsUp σ o a1 a2 a3 a4 = t4 := by subst e_t4; subst e_t1; exact (Eq.trans (if_neg h3) (Eq.trans (if_neg h7) (Eq.trans (if_neg h8) (Eq.trans (if_neg h10) (if_pos h11)))))
                exact wi_zret hC hr hk d_Size_roundsUp_114 rfl (congrArg (fun z => some (Value.int (bI z))) hf) rfl hQ
              refine wi_lcmp_ge hC 113 d_Size_roundsUp_100 d_Size_roundsUp_101 (by decide) (fun h12 => ?_) (fun h12 => ?_)
              · skip
                refine wi_iconst hC 0 (by decide) d_Size_roundsUp_113 ?_
                exact Jt4 false (by exact (Eq.trans eTt4 (if_pos h12)))
              · skip
                refine wi_iload hC 0 d_Size_roundsUp_104 rfl ?_
                refine wi_z_ne (b := t1) hC 113 d_Size_roundsUp_106 (by decide) (fun h13 => ?_) (fun h13 => ?_)
                · skip
                  refine wi_iconst hC 0 (by decide) d_Size_roundsUp_113 ?_
                  exact Jt4 false (by exact (Eq.trans eTt4 (Eq.trans (if_neg h12) (if_pos h13))))
                · skip
                  refine wi_iconst hC 1 (by decide) d_Size_roundsUp_109 ?_
                  refine wi_goto hC 114 d_Size_roundsUp_110 (by decide) ?_
                  exact Jt4 true (by exact (Eq.trans eTt4 (Eq.trans (if_neg h12) (if_neg h13))))
            · skip
              refine wi_tsOut hC 115 d_Size_roundsUp_21 (by have q0 := lv_neT h3 (a := 0) (by decide); have q1 := lv_neT h7 (a := 1) (by decide); have q2 := lv_neT h8 (a := 2) (by decide); have q3 := lv_neT h10 (a := 3) (by decide); have q4 := lv_neT h11 (a := 4) (by decide); omega) (by decide) ?_
              refine wi_iconst hC 0 (by decide) d_Size_roundsUp_115 ?_
              have hf : f_Size_roundsUp σ o a1 a2 a3 a4 = false := by subst e_t1; exact (Eq.trans (if_neg h3) (Eq.trans (if_neg h7) (Eq.trans (if_neg h8) (Eq.trans (if_neg h10) (if_neg h11)))))
              exact wi_zret hC hr hk d_Size_roundsUp_116 rfl (congrArg (fun z => some (Value.int (bI z))) hf) rfl hQ
  refine wi_lcmp_ne hC 16 d_Size_roundsUp_4 d_Size_roundsUp_5 (by decide) (fun h1 => ?_) (fun h1 => ?_)
  · skip
    refine wi_iconst hC 0 (by decide) d_Size_roundsUp_16 ?_
    exact Jt1 false (by exact (Eq.trans eTt1 (if_neg h1)))
  · skip
    refine wi_iload_n hC 2 d_Size_roundsUp_8 rfl rfl ?_
    refine wi_z_ne (b := a2) hC 16 d_Size_roundsUp_9 (by decide) (fun h2 => ?_) (fun h2 => ?_)
    · skip
      refine wi_iconst hC 0 (by decide) d_Size_roundsUp_16 ?_
      exact Jt1 false (by exact (Eq.trans eTt1 (Eq.trans (if_pos h1) (if_pos h2))))
    · skip
      refine wi_iconst hC 1 (by decide) d_Size_roundsUp_12 ?_
      refine wi_goto hC 17 d_Size_roundsUp_13 (by decide) ?_
      exact Jt1 true (by exact (Eq.trans eTt1 (Eq.trans (if_pos h1) (if_neg h2))))
theorem k_Size_roundsUp {p : Program} {l : Launch} {e : Env} {R : Room} {s : State} {m : MethodId} {args : Array Value} {below : List Frame} {meth : Method} {c : Code} {Q : State → Prop} {E : Ev} {nL pc index : Nat} {lv : List (Nat × Value)} {rest : List Value} {cc : ByteArray} {own : String} {σ τ : St} {q : Int64} {o : Nat} {a1 : Int64} {a3 : Int32} (hC : Cx p s m args c cc nL own E) {x_a2 : Int32} (a2 : Bool) (hx_a2 : x_a2 = bI a2) {x_a4 : Int32} (a4 : Bool) (hx_a4 : x_a4 = bI a4) (ho : isSize o) (hl : Cond.methodLink own index y_Size_roundsUp ∈ WL) (hR : 0 + 1 ≤ R.frames ∧ 8 + (7 + 11) + 0 ≤ R.locals) (hs8 : (rest.map fun v => v.category).sum ≤ 8) (d : decode cc pc = .ok (.invokevirtual index, 3)) (k : WS p l e R s m args below meth c Q E nL (pc + 3) lv ((.int (bI (f_Size_roundsUp σ o a1 a2 a3 a4))) :: rest) (σ, τ, q)) : WS p l e R s m args below meth c Q E nL pc lv (.int x_a4 :: .int a3 :: .int x_a2 :: .long a1 :: .ref o :: rest) (σ, τ, q) := by
  subst hx_a2
  subst hx_a4
  exact wi_callV hC (n := 4) (vs := [.long a1, .int (bI a2), .int a3, .int (bI a4)]) (rest := rest) o 3 (lt_Size ho) (wc_Size ho) rfl rfl (c_Size_roundsUp l E σ τ q o a1 a2 a3 a4 ho) (by decide +kernel) wd_119 wd_63 wd_120 wd_121 ⟨rfl, rfl⟩ rfl rfl hl hR hs8 d k
set_option maxRecDepth 100000 in
set_option maxHeartbeats 400000 in
theorem c_Size_round (l : Launch) (E : Ev) (σ τ : St) (q : Int64) (o : Nat) (a1 : Int32) (a2 : Int32) (a3 : Bool) (ho : isSize o) : MF l y_Size_round prog_8_method_17_code 7 none { frames := 1, cells := 0, slots := 0, locals := 26 } E [.ref o, .int a1, .int a2, .int (bI a3)] (σ, τ, q) none ((f_Size_round σ o a1 a2 a3), τ, q) := by
  refine MF_intro (lv0 := [(0, .ref o), (1, .int a1), (2, .int a2), (3, .int (bI a3))]) (by decide) wd_124 (Nat.le_of_ble_eq_true rfl) rfl ?_
  intro p e s m args below meth c Q hC hr hk hQ
  replace hC : Cx p s m args c prog_8_method_17_code 7 "PartnerStack$Size" E := hC
  refine wi_aload_n hC 0 d_Size_round_0 rfl rfl ?_
  refine wg_Size_low hC ho wd_60 d_Size_round_1 ?_
  refine wi_nmJ (fun v1 e_v1 => ?_)
  refine wi_lstore hC [(4, .long v1), (0, .ref o), (1, .int a1), (2, .int a2), (3, .int (bI a3))] d_Size_round_4 (by decide) rfl ?_
  refine wi_aload_n hC 1 d_Size_round_6 rfl rfl ?_
  refine wg_Size_more hC ho wd_66 d_Size_round_7 ?_
  refine wi_nmZ (fun v2 e_v2 => ?_)
  refine wi_istore hC [(6, .int (bI v2)), (4, .long v1), (0, .ref o), (1, .int a1), (2, .int a2), (3, .int (bI a3))] d_Size_round_10 (by decide) rfl ?_
  refine wi_aload_n hC 2 d_Size_round_12 rfl rfl ?_
  refine wi_aload_n hC 2 d_Size_round_13 rfl rfl ?_
  refine wg_Size_high hC ho wd_59 d_Size_round_14 ?_
  refine wp_Size_kept hC ho wd_118 d_Size_round_17 ?_
  refine wi_nmC (fun s1 e_s1 => ?_)
  refine wi_iload_n hC 3 d_Size_round_20 rfl rfl ?_
  refine wi_bipush hC 64 (by decide) d_Size_round_21 ?_
  obtain ⟨Tt1, eTt1⟩ : ∃ y : Bool × Int64 × St, y = (
          if a1 ≤ 64 then
            (v2, v1, s1)
          else
            let t2 : Bool := 
                if v2 = true then
                  true
                else
                  if gJ s1 9 o = 0 then
                    false
                  else
                    true
            let t3 : Int64 := 
                if 128 ≤ a1 then
                  0
                else
                  jlushr (gJ s1 8 o) (a1 - 64)
            let s2 : St := sJ s1 12 o t3
            let t4 : Int64 := 
                if 128 < a1 then
                  jlushr (gJ s2 8 o) 1
                else
                  jlshl (gJ s2 8 o) (128 - a1)
            (t2, t4, s2)) := ⟨_, rfl⟩
  have Jt1 : ∀ (t1 : Bool × Int64 × St), Tt1 = t1 → WS p l e { frames := 1, cells := 0, slots := 0, locals := 26 } s m args below meth c Q E 7 99 [(6, .int (bI t1.1)), (4, .long t1.2.1), (0, .ref o), (1, .int a1), (2, .int a2), (3, .int (bI a3))] [] (t1.2.2, τ, q) := by
    intro t1  e_t1
    rw [eTt1] at e_t1
    refine wi_aload_n hC 2 d_Size_round_99 rfl rfl ?_
    refine wi_lload hC 1 d_Size_round_100 rfl ?_
    refine wi_lconst hC 0 (by decide) d_Size_round_102 ?_
    obtain ⟨Tt5, eTt5⟩ : ∃ y : Bool, y = (
            if t1.2.1 = 0 then
              if t1.1 = true then
                true
              else
                false
            else
              true) := ⟨_, rfl⟩
    have Jt5 : ∀ (t5 : Bool), Tt5 = t5 → WS p l e { frames := 1, cells := 0, slots := 0, locals := 26 } s m args below meth c Q E 7 117 [(6, .int (bI t1.1)), (4, .long t1.2.1), (0, .ref o), (1, .int a1), (2, .int a2), (3, .int (bI a3))] [.int (bI t5), .ref o] (t1.2.2, τ, q) := by
      intro t5  e_t5
      rw [eTt5] at e_t5
      refine wp_Size_isCut hC ho t5 rfl wd_122 d_Size_round_117 ?_
      refine wi_nmC (fun s3 e_s3 => ?_)
      refine wi_aload_n hC 2 d_Size_round_120 rfl rfl ?_
      refine wg_Size_isCut hC ho wd_122 d_Size_round_121 ?_
      obtain ⟨Tt6, eTt6⟩ : ∃ y : St, y = (
              if gZ s3 13 o = true then
                if f_Size_roundsUp s3 o t1.2.1 t1.1 a2 a3 = true then
                  let s4 : St := sJ s3 12 o ((gJ s3 12 o) + 1)
                  s4
                else
                  s3
              else
                s3) := ⟨_, rfl⟩
      have Jt6 : ∀ (t6 : St), Tt6 = t6 → WS p l e { frames := 1, cells := 0, slots := 0, locals := 26 } s m args below meth c Q E 7 150 [(6, .int (bI t1.1)), (4, .long t1.2.1), (0, .ref o), (1, .int a1), (2, .int a2), (3, .int (bI a3))] [] (t6, τ, q) := by
        intro t6  e_t6
        rw [eTt6] at e_t6
        have hf : f_Size_round σ o a1 a2 a3 = t6 := by subst e_t6; subst e_s3; subst e_t5; subst e_t1; subst e_s1; subst e_v2; subst e_v1; exact rfl
        exact wi_vret hC hr hk d_Size_round_150 rfl (congrArg (fun z => (z, τ, q)) hf).symm hQ
      refine wi_z_eq (b := (gZ s3 13 o)) hC 150 d_Size_round_124 (by decide) (fun h8 => ?_) (fun h8 => ?_)
      · skip
        exact Jt6 s3 (by exact (Eq.trans eTt6 (if_neg h8)))
      · skip
        refine wi_aload_n hC 2 d_Size_round_127 rfl rfl ?_
        refine wi_lload hC 1 d_Size_round_128 rfl ?_
        refine wi_iload hC 0 d_Size_round_130 rfl ?_
        refine wi_iload_n hC 4 d_Size_round_132 rfl rfl ?_
        refine wi_iload_n hC 5 d_Size_round_133 rfl rfl ?_
        refine k_Size_roundsUp hC t1.1 rfl a3 rfl ho wd_123 (by decide) (Nat.le_of_ble_eq_true rfl) d_Size_round_134 ?_
        refine wi_z_eq (b := (f_Size_roundsUp s3 o t1.2.1 t1.1 a2 a3)) hC 150 d_Size_round_137 (by decide) (fun h9 => ?_) (fun h9 => ?_)
        · skip
          exact Jt6 s3 (by exact (Eq.trans eTt6 (Eq.trans (if_pos h8) (if_neg h9))))
        · skip
          refine wi_aload_n hC 2 d_Size_round_140 rfl rfl ?_
          refine wi_dup hC rfl d_Size_round_141 ?_
          refine wg_Size_kept hC ho wd_118 d_Size_round_142 ?_
          refine wi_lconst hC 1 (by decide) d_Size_round_145 ?_
          refine wi_ladd hC d_Size_round_146 ?_
          refine wp_Size_kept hC ho wd_118 d_Size_round_147 ?_
          refine wi_nmC (fun s4 e_s4 => ?_)
          exact Jt6 s4 (by subst e_s4; exact (Eq.trans eTt6 (Eq.trans (if_pos h8) (if_pos h9))))
    refine wi_lcmp_ne hC 112 d_Size_round_103 d_Size_round_104 (by decide) (fun h6 => ?_) (fun h6 => ?_)
    · skip
      refine wi_iconst hC 1 (by decide) d_Size_round_112 ?_
      refine wi_goto hC 117 d_Size_round_113 (by decide) ?_
      exact Jt5 true (by exact (Eq.trans eTt5 (if_neg h6)))
    · skip
      refine wi_iload hC 0 d_Size_round_107 rfl ?_
      refine wi_z_eq (b := t1.1) hC 116 d_Size_round_109 (by decide) (fun h7 => ?_) (fun h7 => ?_)
      · skip
        refine wi_iconst hC 0 (by decide) d_Size_round_116 ?_
        exact Jt5 false (by exact (Eq.trans eTt5 (Eq.trans (if_pos h6) (if_neg h7))))
      · skip
        refine wi_iconst hC 1 (by decide) d_Size_round_112 ?_
        refine wi_goto hC 117 d_Size_round_113 (by decide) ?_
        exact Jt5 true (by exact (Eq.trans eTt5 (Eq.trans (if_pos h6) (if_pos h7))))
  refine wi_icmp_le hC 99 d_Size_round_23 (by decide) (fun h1 => ?_) (fun h1 => ?_)
  · skip
    exact Jt1 (v2, v1, s1) (by exact (Eq.trans eTt1 (if_pos h1)))
  · skip
    refine wi_iload hC 0 d_Size_round_26 rfl ?_
    obtain ⟨Tt2, eTt2⟩ : ∃ y : Bool, y = (
            if v2 = true then
              true
            else
              if gJ s1 9 o = 0 then
                false
              else
                true) := ⟨_, rfl⟩
    have Jt2 : ∀ (t2 : Bool), Tt2 = t2 → WS p l e { frames := 1, cells := 0, slots := 0, locals := 26 } s m args below meth c Q E 7 45 [(6, .int (bI v2)), (4, .long v1), (0, .ref o), (1, .int a1), (2, .int a2), (3, .int (bI a3))] [.int (bI t2)] (s1, τ, q) := by
      intro t2  e_t2
      rw [eTt2] at e_t2
      refine wi_istore hC [(6, .int (bI t2)), (4, .long v1), (0, .ref o), (1, .int a1), (2, .int a2), (3, .int (bI a3))] d_Size_round_45 (by decide) rfl ?_
      refine wi_aload_n hC 2 d_Size_round_47 rfl rfl ?_
      refine wi_iload_n hC 3 d_Size_round_48 rfl rfl ?_
      refine wi_sipush hC 128 (by decide) d_Size_round_49 ?_
      obtain ⟨Tt3, eTt3⟩ : ∃ y : Int64, y = (
              if 128 ≤ a1 then
                0
              else
                jlushr (gJ s1 8 o) (a1 - 64)) := ⟨_, rfl⟩
      have Jt3 : ∀ (t3 : Int64), Tt3 = t3 → WS p l e { frames := 1, cells := 0, slots := 0, locals := 26 } s m args below meth c Q E 7 68 [(6, .int (bI t2)), (4, .long v1), (0, .ref o), (1, .int a1), (2, .int a2), (3, .int (bI a3))] [.long t3, .ref o] (s1, τ, q) := by
        intro t3  e_t3
        rw [eTt3] at e_t3
        refine wp_Size_kept hC ho wd_118 d_Size_round_68 ?_
        refine wi_nmC (fun s2 e_s2 => ?_)
        refine wi_iload_n hC 3 d_Size_round_71 rfl rfl ?_
        refine wi_sipush hC 128 (by decide) d_Size_round_72 ?_
        obtain ⟨Tt4, eTt4⟩ : ∃ y : Int64, y = (
                if 128 < a1 then
                  jlushr (gJ s2 8 o) 1
                else
                  jlshl (gJ s2 8 o) (128 - a1)) := ⟨_, rfl⟩
        have Jt4 : ∀ (t4 : Int64), Tt4 = t4 → WS p l e { frames := 1, cells := 0, slots := 0, locals := 26 } s m args below meth c Q E 7 97 [(6, .int (bI t2)), (4, .long v1), (0, .ref o), (1, .int a1), (2, .int a2), (3, .int (bI a3))] [.long t4] (s2, τ, q) := by
          intro t4  e_t4
          rw [eTt4] at e_t4
          refine wi_lstore hC [(4, .long t4), (6, .int (bI t2)), (0, .ref o), (1, .int a1), (2, .int a2), (3, .int (bI a3))] d_Size_round_97 (by decide) rfl ?_
          refine wi_lv [1, 0, 2, 3, 4, 5] [(6, .int (bI t2)), (4, .long t4), (0, .ref o), (1, .int a1), (2, .int a2), (3, .int (bI a3))] rfl ?_
          exact Jt1 (t2, t4, s2) (by subst e_t4; subst e_s2; subst e_t3; subst e_t2; exact (Eq.trans eTt1 (if_neg h1)))
        refine wi_icmp_gt hC 91 d_Size_round_75 (by decide) (fun h5 => ?_) (fun h5 => ?_)
        · skip
          refine wi_aload_n hC 2 d_Size_round_91 rfl rfl ?_
          refine wg_Size_high hC ho wd_59 d_Size_round_92 ?_
          refine wi_iconst hC 1 (by decide) d_Size_round_95 ?_
          refine wi_lushr hC d_Size_round_96 ?_
          exact Jt4 (jlushr (gJ s2 8 o) 1) (by exact (Eq.trans eTt4 (if_pos h5)))
        · skip
          refine wi_aload_n hC 2 d_Size_round_78 rfl rfl ?_
          refine wg_Size_high hC ho wd_59 d_Size_round_79 ?_
          refine wi_sipush hC 128 (by decide) d_Size_round_82 ?_
          refine wi_iload_n hC 3 d_Size_round_85 rfl rfl ?_
          refine wi_isub hC d_Size_round_86 ?_
          refine wi_lshl hC d_Size_round_87 ?_
          refine wi_goto hC 97 d_Size_round_88 (by decide) ?_
          exact Jt4 (jlshl (gJ s2 8 o) (128 - a1)) (by exact (Eq.trans eTt4 (if_neg h5)))
      refine wi_icmp_ge hC 67 d_Size_round_52 (by decide) (fun h4 => ?_) (fun h4 => ?_)
      · skip
        refine wi_lconst hC 0 (by decide) d_Size_round_67 ?_
        exact Jt3 0 (by exact (Eq.trans eTt3 (if_pos h4)))
      · skip
        refine wi_aload_n hC 2 d_Size_round_55 rfl rfl ?_
        refine wg_Size_high hC ho wd_59 d_Size_round_56 ?_
        refine wi_iload_n hC 3 d_Size_round_59 rfl rfl ?_
        refine wi_bipush hC 64 (by decide) d_Size_round_60 ?_
        refine wi_isub hC d_Size_round_62 ?_
        refine wi_lushr hC d_Size_round_63 ?_
        refine wi_goto hC 68 d_Size_round_64 (by decide) ?_
        exact Jt3 (jlushr (gJ s1 8 o) (a1 - 64)) (by exact (Eq.trans eTt3 (if_neg h4)))
    refine wi_z_ne (b := v2) hC 40 d_Size_round_28 (by decide) (fun h2 => ?_) (fun h2 => ?_)
    · skip
      refine wi_iconst hC 1 (by decide) d_Size_round_40 ?_
      refine wi_goto hC 45 d_Size_round_41 (by decide) ?_
      exact Jt2 true (by exact (Eq.trans eTt2 (if_pos h2)))
    · skip
      refine wi_aload_n hC 2 d_Size_round_31 rfl rfl ?_
      refine wg_Size_low hC ho wd_60 d_Size_round_32 ?_
      refine wi_lconst hC 0 (by decide) d_Size_round_35 ?_
      refine wi_lcmp_eq hC 44 d_Size_round_36 d_Size_round_37 (by decide) (fun h3 => ?_) (fun h3 => ?_)
      · skip
        refine wi_iconst hC 0 (by decide) d_Size_round_44 ?_
        exact Jt2 false (by exact (Eq.trans eTt2 (Eq.trans (if_neg h2) (if_pos h3))))
      · skip
        refine wi_iconst hC 1 (by decide) d_Size_round_40 ?_
        refine wi_goto hC 45 d_Size_round_41 (by decide) ?_
        exact Jt2 true (by exact (Eq.trans eTt2 (Eq.trans (if_neg h2) (if_neg h3))))
theorem k_Size_round {p : Program} {l : Launch} {e : Env} {R : Room} {s : State} {m : MethodId} {args : Array Value} {below : List Frame} {meth : Method} {c : Code} {Q : State → Prop} {E : Ev} {nL pc index : Nat} {lv : List (Nat × Value)} {rest : List Value} {cc : ByteArray} {own : String} {σ τ : St} {q : Int64} {o : Nat} {a1 : Int32} {a2 : Int32} (hC : Cx p s m args c cc nL own E) {x_a3 : Int32} (a3 : Bool) (hx_a3 : x_a3 = bI a3) (ho : isSize o) (hl : Cond.methodLink own index y_Size_round ∈ WL) (hR : 1 + 1 ≤ R.frames ∧ 8 + (7 + 11) + 26 ≤ R.locals) (hs8 : (rest.map fun v => v.category).sum ≤ 8) (d : decode cc pc = .ok (.invokevirtual index, 3)) (k : WS p l e R s m args below meth c Q E nL (pc + 3) lv rest ((f_Size_round σ o a1 a2 a3), τ, q)) : WS p l e R s m args below meth c Q E nL pc lv (.int x_a3 :: .int a2 :: .int a1 :: .ref o :: rest) (σ, τ, q) := by
  subst hx_a3
  exact wi_callV hC (n := 3) (vs := [.int a1, .int a2, .int (bI a3)]) (rest := rest) o 3 (lt_Size ho) (wc_Size ho) rfl rfl (c_Size_round l E σ τ q o a1 a2 a3 ho) (by decide +kernel) wd_124 wd_63 wd_125 wd_126 ⟨rfl, rfl⟩ rfl rfl hl hR hs8 d k
set_option maxRecDepth 100000 in
set_option maxHeartbeats 400000 in
theorem c_Size_reduce (l : Launch) (E : Ev) (σ τ : St) (q : Int64) (o : Nat) (a1 : Nat) (a2 : Int32) (a3 : Int32) (ho : isSize o) (ha1 : isSize a1) : MF l y_Size_reduce prog_8_method_14_code 5 (some .int) { frames := 2, cells := 0, slots := 0, locals := 48 } E [.ref o, .ref a1, .int a2, .int a3] (σ, τ, q) (some (.int ((f_Size_reduce σ o a1 a2 a3).1))) ((f_Size_reduce σ o a1 a2 a3).2, τ, q) := by
  refine MF_intro (lv0 := [(0, .ref o), (1, .ref a1), (2, .int a2), (3, .int a3)]) (by decide) wd_127 (Nat.le_of_ble_eq_true rfl) rfl ?_
  intro p e s m args below meth c Q hC hr hk hQ
  replace hC : Cx p s m args c prog_8_method_14_code 5 "PartnerStack$Size" E := hC
  refine wi_aload_n hC 0 d_Size_reduce_0 rfl rfl ?_
  refine wi_aload_n hC 1 d_Size_reduce_1 rfl rfl ?_
  refine wg_Size_high hC ha1 wd_59 d_Size_reduce_2 ?_
  refine wi_iload_n hC 2 d_Size_reduce_5 rfl rfl ?_
  refine k_Size_longDivide hC ho wd_108 (by decide) (Nat.le_of_ble_eq_true rfl) d_Size_reduce_6 ?_
  refine wi_nmC (fun s1 e_s1 => ?_)
  refine wi_aload_n hC 0 d_Size_reduce_9 rfl rfl ?_
  refine wg_Size_low hC ho wd_60 d_Size_reduce_10 ?_
  refine wi_l2i hC d_Size_reduce_13 ?_
  refine wi_bipush hC 7 (by decide) d_Size_reduce_14 ?_
  refine wi_iand hC d_Size_reduce_16 ?_
  refine wi_nmI (fun v1 e_v1 => ?_)
  refine wi_istore hC [(4, .int v1), (0, .ref o), (1, .ref a1), (2, .int a2), (3, .int a3)] d_Size_reduce_17 (by decide) rfl ?_
  refine wi_aload_n hC 1 d_Size_reduce_19 rfl rfl ?_
  refine wi_aload_n hC 1 d_Size_reduce_20 rfl rfl ?_
  refine wg_Size_rest hC ho wd_104 d_Size_reduce_21 ?_
  refine wi_aload_n hC 2 d_Size_reduce_24 rfl rfl ?_
  refine wg_Size_unit hC ha1 wd_61 d_Size_reduce_25 ?_
  refine wi_bipush hC 64 (by decide) d_Size_reduce_28 ?_
  refine wi_iadd hC d_Size_reduce_30 ?_
  refine wi_iload_n hC 4 d_Size_reduce_31 rfl rfl ?_
  refine wi_iadd hC d_Size_reduce_32 ?_
  refine k_Size_loadTimes hC ho wd_76 (by decide) (Nat.le_of_ble_eq_true rfl) d_Size_reduce_33 ?_
  refine wi_nmC (fun s2 e_s2 => ?_)
  refine wi_iload hC 0 d_Size_reduce_36 rfl ?_
  have hf : f_Size_reduce σ o a1 a2 a3 = (v1, s2) := by subst e_s2; subst e_v1; subst e_s1; exact rfl
  exact wi_iret hC hr hk d_Size_reduce_38 (congrArg (fun z => some (Value.int z.1)) hf) (congrArg (fun z => (z.2, τ, q)) hf).symm hQ
theorem k_Size_reduce {p : Program} {l : Launch} {e : Env} {R : Room} {s : State} {m : MethodId} {args : Array Value} {below : List Frame} {meth : Method} {c : Code} {Q : State → Prop} {E : Ev} {nL pc index : Nat} {lv : List (Nat × Value)} {rest : List Value} {cc : ByteArray} {own : String} {σ τ : St} {q : Int64} {o : Nat} {a1 : Nat} {a2 : Int32} {a3 : Int32} (hC : Cx p s m args c cc nL own E)  (ho : isSize o) (ha1 : isSize a1) (hl : Cond.methodLink own index y_Size_reduce ∈ WL) (hR : 2 + 1 ≤ R.frames ∧ 8 + (5 + 11) + 48 ≤ R.locals) (hs8 : (rest.map fun v => v.category).sum ≤ 8) (d : decode cc pc = .ok (.invokevirtual index, 3)) (k : WS p l e R s m args below meth c Q E nL (pc + 3) lv ((.int ((f_Size_reduce σ o a1 a2 a3).1)) :: rest) ((f_Size_reduce σ o a1 a2 a3).2, τ, q)) : WS p l e R s m args below meth c Q E nL pc lv (.int a3 :: .int a2 :: .ref a1 :: .ref o :: rest) (σ, τ, q) := by
  exact wi_callV hC (n := 3) (vs := [.ref a1, .int a2, .int a3]) (rest := rest) o 3 (lt_Size ho) (wc_Size ho) rfl rfl (c_Size_reduce l E σ τ q o a1 a2 a3 ho ha1) (by decide +kernel) wd_127 wd_63 wd_128 wd_129 ⟨rfl, rfl⟩ rfl rfl hl hR hs8 d k
