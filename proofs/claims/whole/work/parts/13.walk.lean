set_option maxRecDepth 100000 in
set_option maxHeartbeats 4000000 in
theorem c_Real_set (l : Launch) (E : Ev) (σ τ : St) (q : Int64) (o : Nat) (a1 : Bool) (a2 : Int32) (a3 : Int64) (ho : isReal o) : MF l y_Real_set prog_7_method_8_code 5 none { frames := 0, cells := 0, slots := 0, locals := 0 } E [.ref o, .int (bI a1), .int a2, .long a3] (σ, τ, q) none ((f_Real_set σ o a1 a2 a3), τ, q) := by
  refine MF_intro (lv0 := [(0, .ref o), (1, .int (bI a1)), (2, .int a2), (3, .long a3)]) (by decide) wd_3 (Nat.le_of_ble_eq_true rfl) rfl ?_
  intro p e s m args below meth c Q hC hr hk hQ
  replace hC : Cx p s m args c prog_7_method_8_code 5 "PartnerStack$Real" E := hC
  refine wi_aload_n hC 0 d_Real_set_0 rfl rfl ?_
  refine wi_iload_n hC 1 d_Real_set_1 rfl rfl ?_
  refine wp_Real_minus hC ho a1 rfl wd_0 d_Real_set_2 ?_
  refine wi_nmC (fun s1 e_s1 => ?_)
  refine wi_aload_n hC 0 d_Real_set_5 rfl rfl ?_
  refine wi_iload_n hC 2 d_Real_set_6 rfl rfl ?_
  refine wp_Real_power hC ho wd_1 d_Real_set_7 ?_
  refine wi_nmC (fun s2 e_s2 => ?_)
  refine wi_aload_n hC 0 d_Real_set_10 rfl rfl ?_
  refine wi_lload_n hC 3 d_Real_set_11 rfl rfl ?_
  refine wp_Real_fraction hC ho wd_2 d_Real_set_12 ?_
  refine wi_nmC (fun s3 e_s3 => ?_)
  have hf : f_Real_set σ o a1 a2 a3 = s3 := by subst e_s3; subst e_s2; subst e_s1; exact rfl
  exact wi_vret hC hr hk d_Real_set_15 rfl (congrArg (fun z => (z, τ, q)) hf).symm hQ
theorem k_Real_set {p : Program} {l : Launch} {e : Env} {R : Room} {s : State} {m : MethodId} {args : Array Value} {below : List Frame} {meth : Method} {c : Code} {Q : State → Prop} {E : Ev} {nL pc index : Nat} {lv : List (Nat × Value)} {rest : List Value} {cc : ByteArray} {own : String} {σ τ : St} {q : Int64} {o : Nat} {a2 : Int32} {a3 : Int64} (hC : Cx p s m args c cc nL own E) {x_a1 : Int32} (a1 : Bool) (hx_a1 : x_a1 = bI a1) (ho : isReal o) (hl : Cond.methodLink own index y_Real_set ∈ WL) (hR : 0 + 1 ≤ R.frames ∧ 8 + (5 + 11) + 0 ≤ R.locals) (hs8 : (rest.map fun v => v.category).sum ≤ 8) (d : decode cc pc = .ok (.invokevirtual index, 3)) (k : WS p l e R s m args below meth c Q E nL (pc + 3) lv rest ((f_Real_set σ o a1 a2 a3), τ, q)) : WS p l e R s m args below meth c Q E nL pc lv (.long a3 :: .int a2 :: .int x_a1 :: .ref o :: rest) (σ, τ, q) := by
  subst hx_a1
  exact wi_callV hC (n := 3) (vs := [.int (bI a1), .int a2, .long a3]) (rest := rest) o 5 (lt_Real ho) (wc_Real ho) rfl rfl (c_Real_set l E σ τ q o a1 a2 a3 ho) (by decide +kernel) wd_3 wd_4 wd_5 wd_6 ⟨rfl, rfl⟩ rfl rfl hl hR hs8 d k
set_option maxRecDepth 100000 in
set_option maxHeartbeats 4000000 in
theorem c_Real_isNothing (l : Launch) (E : Ev) (σ τ : St) (q : Int64) (o : Nat) (ho : isReal o) : MF l y_Real_isNothing prog_7_method_4_code 1 (some .boolean) { frames := 0, cells := 0, slots := 0, locals := 0 } E [.ref o] (σ, τ, q) (some (.int (bI (f_Real_isNothing σ o)))) (σ, τ, q) := by
  refine MF_intro (lv0 := [(0, .ref o)]) (by decide) wd_7 (Nat.le_of_ble_eq_true rfl) rfl ?_
  intro p e s m args below meth c Q hC hr hk hQ
  replace hC : Cx p s m args c prog_7_method_4_code 1 "PartnerStack$Real" E := hC
  refine wi_aload_n hC 0 d_Real_isNothing_0 rfl rfl ?_
  refine wg_Real_power hC ho wd_1 d_Real_isNothing_1 ?_
  refine wi_sipush hC 32767 (by decide) d_Real_isNothing_4 ?_
  have Jt1 : ∀ (t1 : Bool), t1 = (
          if gI σ 16 o = 32767 then
            false
          else
            if gJ σ 17 o = 0 then
              true
            else
              false) → WS p l e { frames := 0, cells := 0, slots := 0, locals := 0 } s m args below meth c Q E 1 24 [(0, .ref o)] [.int (bI t1)] (σ, τ, q) := by
    intro t1  e_t1
    have hf : f_Real_isNothing σ o = t1 := by subst e_t1; exact rfl
    exact wi_zret hC hr hk d_Real_isNothing_24 rfl (congrArg (fun z => some (Value.int (bI z))) hf) rfl hQ
  refine wi_icmp_eq hC 23 d_Real_isNothing_7 (by decide) (fun h1 => ?_) (fun h1 => ?_)
  · skip
    refine wi_iconst hC 0 (by decide) d_Real_isNothing_23 ?_
    exact Jt1 false (by exact ((if_pos h1)).symm)
  · skip
    refine wi_aload_n hC 0 d_Real_isNothing_10 rfl rfl ?_
    refine wg_Real_fraction hC ho wd_2 d_Real_isNothing_11 ?_
    refine wi_lconst hC 0 (by decide) d_Real_isNothing_14 ?_
    refine wi_lcmp_ne hC 23 d_Real_isNothing_15 d_Real_isNothing_16 (by decide) (fun h2 => ?_) (fun h2 => ?_)
    · skip
      refine wi_iconst hC 0 (by decide) d_Real_isNothing_23 ?_
      exact Jt1 false (by exact ((Eq.trans (if_neg h1) (if_neg h2))).symm)
    · skip
      refine wi_iconst hC 1 (by decide) d_Real_isNothing_19 ?_
      refine wi_goto hC 24 d_Real_isNothing_20 (by decide) ?_
      exact Jt1 true (by exact ((Eq.trans (if_neg h1) (if_pos h2))).symm)
theorem k_Real_isNothing {p : Program} {l : Launch} {e : Env} {R : Room} {s : State} {m : MethodId} {args : Array Value} {below : List Frame} {meth : Method} {c : Code} {Q : State → Prop} {E : Ev} {nL pc index : Nat} {lv : List (Nat × Value)} {rest : List Value} {cc : ByteArray} {own : String} {σ τ : St} {q : Int64} {o : Nat} (hC : Cx p s m args c cc nL own E)  (ho : isReal o) (hl : Cond.methodLink own index y_Real_isNothing ∈ WL) (hR : 0 + 1 ≤ R.frames ∧ 8 + (1 + 11) + 0 ≤ R.locals) (hs8 : (rest.map fun v => v.category).sum ≤ 8) (d : decode cc pc = .ok (.invokevirtual index, 3)) (k : WS p l e R s m args below meth c Q E nL (pc + 3) lv ((.int (bI (f_Real_isNothing σ o))) :: rest) (σ, τ, q)) : WS p l e R s m args below meth c Q E nL pc lv (.ref o :: rest) (σ, τ, q) := by
  exact wi_callV hC (n := 0) (vs := []) (rest := rest) o 5 (lt_Real ho) (wc_Real ho) rfl rfl (c_Real_isNothing l E σ τ q o ho) (by decide +kernel) wd_7 wd_4 wd_8 wd_9 ⟨rfl, rfl⟩ rfl rfl hl hR hs8 d k
set_option maxRecDepth 100000 in
set_option maxHeartbeats 4000000 in
theorem c_Real_kind (l : Launch) (E : Ev) (σ τ : St) (q : Int64) (o : Nat) (ho : isReal o) : MF l y_Real_kind prog_7_method_2_code 1 (some .int) { frames := 0, cells := 0, slots := 0, locals := 0 } E [.ref o] (σ, τ, q) (some (.int (f_Real_kind σ o))) (σ, τ, q) := by
  refine MF_intro (lv0 := [(0, .ref o)]) (by decide) wd_10 (Nat.le_of_ble_eq_true rfl) rfl ?_
  intro p e s m args below meth c Q hC hr hk hQ
  replace hC : Cx p s m args c prog_7_method_2_code 1 "PartnerStack$Real" E := hC
  refine wi_aload_n hC 0 d_Real_kind_0 rfl rfl ?_
  refine wg_Real_power hC ho wd_1 d_Real_kind_1 ?_
  refine wi_sipush hC 32767 (by decide) d_Real_kind_4 ?_
  refine wi_icmp_ne hC 27 d_Real_kind_7 (by decide) (fun h1 => ?_) (fun h1 => ?_)
  · skip
    refine wi_aload_n hC 0 d_Real_kind_27 rfl rfl ?_
    refine wg_Real_power hC ho wd_1 d_Real_kind_28 ?_
    refine wi_if_ne hC 49 d_Real_kind_31 (by decide) (fun h2 => ?_) (fun h2 => ?_)
    · skip
      refine wi_aload_n hC 0 d_Real_kind_49 rfl rfl ?_
      refine wg_Real_fraction hC ho wd_2 d_Real_kind_50 ?_
      refine wi_lconst hC 0 (by decide) d_Real_kind_53 ?_
      have Jt1 : ∀ (t1 : Int32), t1 = (
              if 0 ≤ (gJ σ 17 o) then
                2
              else
                3) → WS p l e { frames := 0, cells := 0, slots := 0, locals := 0 } s m args below meth c Q E 1 63 [(0, .ref o)] [.int t1] (σ, τ, q) := by
        intro t1  e_t1
        have hf : f_Real_kind σ o = t1 := by subst e_t1; exact (Eq.trans (if_neg h1) (if_neg h2))
        exact wi_iret hC hr hk d_Real_kind_63 (congrArg (fun z => some (Value.int z)) hf) rfl hQ
      refine wi_lcmp_ge hC 62 d_Real_kind_54 d_Real_kind_55 (by decide) (fun h3 => ?_) (fun h3 => ?_)
      · skip
        refine wi_iconst hC 2 (by decide) d_Real_kind_62 ?_
        exact Jt1 2 (by exact ((if_pos h3)).symm)
      · skip
        refine wi_iconst hC 3 (by decide) d_Real_kind_58 ?_
        refine wi_goto hC 63 d_Real_kind_59 (by decide) ?_
        exact Jt1 3 (by exact ((if_neg h3)).symm)
    · skip
      refine wi_aload_n hC 0 d_Real_kind_34 rfl rfl ?_
      refine wg_Real_fraction hC ho wd_2 d_Real_kind_35 ?_
      refine wi_lconst hC 0 (by decide) d_Real_kind_38 ?_
      have Jt2 : ∀ (t2 : Bool), t2 = (
              if gJ σ 17 o = 0 then
                false
              else
                true) → WS p l e { frames := 0, cells := 0, slots := 0, locals := 0 } s m args below meth c Q E 1 48 [(0, .ref o)] [.int (bI t2)] (σ, τ, q) := by
        intro t2  e_t2
        have hf : f_Real_kind σ o = bI t2 := by subst e_t2; exact (Eq.trans (if_neg h1) (if_pos h2))
        exact wi_iret hC hr hk d_Real_kind_48 (congrArg (fun z => some (Value.int z)) hf) rfl hQ
      refine wi_lcmp_ne hC 47 d_Real_kind_39 d_Real_kind_40 (by decide) (fun h4 => ?_) (fun h4 => ?_)
      · skip
        refine wi_iconst hC 1 (by decide) d_Real_kind_47 ?_
        exact Jt2 true (by exact ((if_neg h4)).symm)
      · skip
        refine wi_iconst hC 0 (by decide) d_Real_kind_43 ?_
        refine wi_goto hC 48 d_Real_kind_44 (by decide) ?_
        exact Jt2 false (by exact ((if_pos h4)).symm)
  · skip
    refine wi_aload_n hC 0 d_Real_kind_10 rfl rfl ?_
    refine wg_Real_fraction hC ho wd_2 d_Real_kind_11 ?_
    refine wi_iconst hC 1 (by decide) d_Real_kind_14 ?_
    refine wi_lshl hC d_Real_kind_15 ?_
    refine wi_lconst hC 0 (by decide) d_Real_kind_16 ?_
    have Jt3 : ∀ (t3 : Int32), t3 = (
            if jlshl (gJ σ 17 o) 1 = 0 then
              4
            else
              5) → WS p l e { frames := 0, cells := 0, slots := 0, locals := 0 } s m args below meth c Q E 1 26 [(0, .ref o)] [.int t3] (σ, τ, q) := by
      intro t3  e_t3
      have hf : f_Real_kind σ o = t3 := by subst e_t3; exact (if_pos h1)
      exact wi_iret hC hr hk d_Real_kind_26 (congrArg (fun z => some (Value.int z)) hf) rfl hQ
    refine wi_lcmp_ne hC 25 d_Real_kind_17 d_Real_kind_18 (by decide) (fun h5 => ?_) (fun h5 => ?_)
    · skip
      refine wi_iconst hC 5 (by decide) d_Real_kind_25 ?_
      exact Jt3 5 (by exact ((if_neg h5)).symm)
    · skip
      refine wi_iconst hC 4 (by decide) d_Real_kind_21 ?_
      refine wi_goto hC 26 d_Real_kind_22 (by decide) ?_
      exact Jt3 4 (by exact ((if_pos h5)).symm)
theorem k_Real_kind {p : Program} {l : Launch} {e : Env} {R : Room} {s : State} {m : MethodId} {args : Array Value} {below : List Frame} {meth : Method} {c : Code} {Q : State → Prop} {E : Ev} {nL pc index : Nat} {lv : List (Nat × Value)} {rest : List Value} {cc : ByteArray} {own : String} {σ τ : St} {q : Int64} {o : Nat} (hC : Cx p s m args c cc nL own E)  (ho : isReal o) (hl : Cond.methodLink own index y_Real_kind ∈ WL) (hR : 0 + 1 ≤ R.frames ∧ 8 + (1 + 11) + 0 ≤ R.locals) (hs8 : (rest.map fun v => v.category).sum ≤ 8) (d : decode cc pc = .ok (.invokevirtual index, 3)) (k : WS p l e R s m args below meth c Q E nL (pc + 3) lv ((.int (f_Real_kind σ o)) :: rest) (σ, τ, q)) : WS p l e R s m args below meth c Q E nL pc lv (.ref o :: rest) (σ, τ, q) := by
  exact wi_callV hC (n := 0) (vs := []) (rest := rest) o 5 (lt_Real ho) (wc_Real ho) rfl rfl (c_Real_kind l E σ τ q o ho) (by decide +kernel) wd_10 wd_4 wd_11 wd_12 ⟨rfl, rfl⟩ rfl rfl hl hR hs8 d k
set_option maxRecDepth 100000 in
set_option maxHeartbeats 4000000 in
theorem c_Real_tag (l : Launch) (E : Ev) (σ τ : St) (q : Int64) (o : Nat) (ho : isReal o) : MF l y_Real_tag prog_7_method_6_code 1 (some .int) { frames := 1, cells := 0, slots := 0, locals := 20 } E [.ref o] (σ, τ, q) (some (.int (f_Real_tag σ o))) (σ, τ, q) := by
  refine MF_intro (lv0 := [(0, .ref o)]) (by decide) wd_15 (Nat.le_of_ble_eq_true rfl) rfl ?_
  intro p e s m args below meth c Q hC hr hk hQ
  replace hC : Cx p s m args c prog_7_method_6_code 1 "PartnerStack$Real" E := hC
  refine wi_aload_n hC 0 d_Real_tag_0 rfl rfl ?_
  refine k_Real_isNothing hC ho wd_13 (by decide) (Nat.le_of_ble_eq_true rfl) d_Real_tag_1 ?_
  refine wi_z_eq (b := (f_Real_isNothing σ o)) hC 9 d_Real_tag_4 (by decide) (fun h1 => ?_) (fun h1 => ?_)
  · skip
    refine wi_aload_n hC 0 d_Real_tag_9 rfl rfl ?_
    refine k_Real_kind hC ho wd_14 (by decide) (Nat.le_of_ble_eq_true rfl) d_Real_tag_10 ?_
    refine wi_iconst hC 3 (by decide) d_Real_tag_13 ?_
    have Jt1 : ∀ (t1 : Int32), t1 = (
            if f_Real_kind σ o = 3 then
              0
            else
              2) → WS p l e { frames := 1, cells := 0, slots := 0, locals := 20 } s m args below meth c Q E 1 22 [(0, .ref o)] [.int t1] (σ, τ, q) := by
      intro t1  e_t1
      have hf : f_Real_tag σ o = t1 := by subst e_t1; exact (if_neg h1)
      exact wi_iret hC hr hk d_Real_tag_22 (congrArg (fun z => some (Value.int z)) hf) rfl hQ
    refine wi_icmp_ne hC 21 d_Real_tag_14 (by decide) (fun h2 => ?_) (fun h2 => ?_)
    · skip
      refine wi_iconst hC 2 (by decide) d_Real_tag_21 ?_
      exact Jt1 2 (by exact ((if_neg h2)).symm)
    · skip
      refine wi_iconst hC 0 (by decide) d_Real_tag_17 ?_
      refine wi_goto hC 22 d_Real_tag_18 (by decide) ?_
      exact Jt1 0 (by exact ((if_pos h2)).symm)
  · skip
    refine wi_iconst hC 1 (by decide) d_Real_tag_7 ?_
    have hf : f_Real_tag σ o = 1 := by exact (if_pos h1)
    exact wi_iret hC hr hk d_Real_tag_8 (congrArg (fun z => some (Value.int z)) hf) rfl hQ
theorem k_Real_tag {p : Program} {l : Launch} {e : Env} {R : Room} {s : State} {m : MethodId} {args : Array Value} {below : List Frame} {meth : Method} {c : Code} {Q : State → Prop} {E : Ev} {nL pc index : Nat} {lv : List (Nat × Value)} {rest : List Value} {cc : ByteArray} {own : String} {σ τ : St} {q : Int64} {o : Nat} (hC : Cx p s m args c cc nL own E)  (ho : isReal o) (hl : Cond.methodLink own index y_Real_tag ∈ WL) (hR : 1 + 1 ≤ R.frames ∧ 8 + (1 + 11) + 20 ≤ R.locals) (hs8 : (rest.map fun v => v.category).sum ≤ 8) (d : decode cc pc = .ok (.invokevirtual index, 3)) (k : WS p l e R s m args below meth c Q E nL (pc + 3) lv ((.int (f_Real_tag σ o)) :: rest) (σ, τ, q)) : WS p l e R s m args below meth c Q E nL pc lv (.ref o :: rest) (σ, τ, q) := by
  exact wi_callV hC (n := 0) (vs := []) (rest := rest) o 5 (lt_Real ho) (wc_Real ho) rfl rfl (c_Real_tag l E σ τ q o ho) (by decide +kernel) wd_15 wd_4 wd_16 wd_17 ⟨rfl, rfl⟩ rfl rfl hl hR hs8 d k
set_option maxRecDepth 100000 in
set_option maxHeartbeats 4000000 in
theorem c_Real_top (l : Launch) (E : Ev) (σ τ : St) (q : Int64) (o : Nat) (ho : isReal o) : MF l y_Real_top prog_7_method_7_code 1 (some .int) { frames := 0, cells := 0, slots := 0, locals := 0 } E [.ref o] (σ, τ, q) (some (.int (f_Real_top σ o))) (σ, τ, q) := by
  refine MF_intro (lv0 := [(0, .ref o)]) (by decide) wd_19 (Nat.le_of_ble_eq_true rfl) rfl ?_
  intro p e s m args below meth c Q hC hr hk hQ
  replace hC : Cx p s m args c prog_7_method_7_code 1 "PartnerStack$Real" E := hC
  refine wi_aload_n hC 0 d_Real_top_0 rfl rfl ?_
  refine wg_Real_minus hC ho wd_0 d_Real_top_1 ?_
  have Jt1 : ∀ (t1 : Int32), t1 = (
          if gZ σ 15 o = true then
            32768
          else
            0) → WS p l e { frames := 0, cells := 0, slots := 0, locals := 0 } s m args below meth c Q E 1 13 [(0, .ref o)] [.int t1] (σ, τ, q) := by
    intro t1  e_t1
    refine wi_aload_n hC 0 d_Real_top_13 rfl rfl ?_
    refine wg_Real_power hC ho wd_1 d_Real_top_14 ?_
    refine wi_ior hC d_Real_top_17 ?_
    have hf : f_Real_top σ o = t1 ||| (gI σ 16 o) := by subst e_t1; exact rfl
    exact wi_iret hC hr hk d_Real_top_18 (congrArg (fun z => some (Value.int z)) hf) rfl hQ
  refine wi_z_eq (b := (gZ σ 15 o)) hC 12 d_Real_top_4 (by decide) (fun h1 => ?_) (fun h1 => ?_)
  · skip
    refine wi_iconst hC 0 (by decide) d_Real_top_12 ?_
    exact Jt1 0 (by exact ((if_neg h1)).symm)
  · skip
    refine wi_ldc hC wd_18 d_Real_top_7 ?_
    refine wi_goto hC 13 d_Real_top_9 (by decide) ?_
    exact Jt1 32768 (by exact ((if_pos h1)).symm)
theorem k_Real_top {p : Program} {l : Launch} {e : Env} {R : Room} {s : State} {m : MethodId} {args : Array Value} {below : List Frame} {meth : Method} {c : Code} {Q : State → Prop} {E : Ev} {nL pc index : Nat} {lv : List (Nat × Value)} {rest : List Value} {cc : ByteArray} {own : String} {σ τ : St} {q : Int64} {o : Nat} (hC : Cx p s m args c cc nL own E)  (ho : isReal o) (hl : Cond.methodLink own index y_Real_top ∈ WL) (hR : 0 + 1 ≤ R.frames ∧ 8 + (1 + 11) + 0 ≤ R.locals) (hs8 : (rest.map fun v => v.category).sum ≤ 8) (d : decode cc pc = .ok (.invokevirtual index, 3)) (k : WS p l e R s m args below meth c Q E nL (pc + 3) lv ((.int (f_Real_top σ o)) :: rest) (σ, τ, q)) : WS p l e R s m args below meth c Q E nL pc lv (.ref o :: rest) (σ, τ, q) := by
  exact wi_callV hC (n := 0) (vs := []) (rest := rest) o 5 (lt_Real ho) (wc_Real ho) rfl rfl (c_Real_top l E σ τ q o ho) (by decide +kernel) wd_19 wd_4 wd_20 wd_21 ⟨rfl, rfl⟩ rfl rfl hl hR hs8 d k
set_option maxRecDepth 100000 in
set_option maxHeartbeats 4000000 in
theorem c_Ctl_tell (l : Launch) (E : Ev) (σ τ : St) (q : Int64) (a1 : Int32)  : MF l y_Ctl_tell prog_2_method_2_code 2 none { frames := 0, cells := 0, slots := 0, locals := 0 } E [.ref 3, .int a1] (σ, τ, q) none ((f_Ctl_tell σ a1), τ, q) := by
  refine MF_intro (lv0 := [(0, .ref 3), (1, .int a1)]) (by decide) wd_23 (Nat.le_of_ble_eq_true rfl) rfl ?_
  intro p e s m args below meth c Q hC hr hk hQ
  replace hC : Cx p s m args c prog_2_method_2_code 2 "PartnerStack$Control" E := hC
  refine wi_aload_n hC 0 d_Ctl_tell_0 rfl rfl ?_
  refine wi_dup hC rfl d_Ctl_tell_1 ?_
  refine wg_Ctl_told hC wd_22 d_Ctl_tell_2 ?_
  refine wi_iload_n hC 1 d_Ctl_tell_5 rfl rfl ?_
  refine wi_ior hC d_Ctl_tell_6 ?_
  refine wp_Ctl_told hC wd_22 d_Ctl_tell_7 ?_
  refine wi_nmC (fun s1 e_s1 => ?_)
  have hf : f_Ctl_tell σ a1 = s1 := by subst e_s1; exact rfl
  exact wi_vret hC hr hk d_Ctl_tell_10 rfl (congrArg (fun z => (z, τ, q)) hf).symm hQ
theorem k_Ctl_tell {p : Program} {l : Launch} {e : Env} {R : Room} {s : State} {m : MethodId} {args : Array Value} {below : List Frame} {meth : Method} {c : Code} {Q : State → Prop} {E : Ev} {nL pc index : Nat} {lv : List (Nat × Value)} {rest : List Value} {cc : ByteArray} {own : String} {σ τ : St} {q : Int64} {a1 : Int32} (hC : Cx p s m args c cc nL own E)   (hl : Cond.methodLink own index y_Ctl_tell ∈ WL) (hR : 0 + 1 ≤ R.frames ∧ 8 + (2 + 11) + 0 ≤ R.locals) (hs8 : (rest.map fun v => v.category).sum ≤ 8) (d : decode cc pc = .ok (.invokevirtual index, 3)) (k : WS p l e R s m args below meth c Q E nL (pc + 3) lv rest ((f_Ctl_tell σ a1), τ, q)) : WS p l e R s m args below meth c Q E nL pc lv (.int a1 :: .ref 3 :: rest) (σ, τ, q) := by
  exact wi_callV hC (n := 1) (vs := [.int a1]) (rest := rest) 3 2 (by decide) rfl rfl rfl (c_Ctl_tell l E σ τ q a1 ) (by decide +kernel) wd_23 wd_24 wd_25 wd_26 ⟨rfl, rfl⟩ rfl rfl hl hR hs8 d k
set_option maxRecDepth 100000 in
set_option maxHeartbeats 4000000 in
theorem c_Real_setIndefinite (l : Launch) (E : Ev) (σ τ : St) (q : Int64) (o : Nat) (ho : isReal o) : MF l y_Real_setIndefinite prog_7_method_11_code 1 none { frames := 1, cells := 0, slots := 0, locals := 24 } E [.ref o] (σ, τ, q) none ((f_Real_setIndefinite σ o), τ, q) := by
  refine MF_intro (lv0 := [(0, .ref o)]) (by decide) wd_29 (Nat.le_of_ble_eq_true rfl) rfl ?_
  intro p e s m args below meth c Q hC hr hk hQ
  replace hC : Cx p s m args c prog_7_method_11_code 1 "PartnerStack$Real" E := hC
  refine wi_aload_n hC 0 d_Real_setIndefinite_0 rfl rfl ?_
  refine wi_iconst hC 1 (by decide) d_Real_setIndefinite_1 ?_
  refine wi_sipush hC 32767 (by decide) d_Real_setIndefinite_2 ?_
  refine wi_ldc2 hC wd_27 d_Real_setIndefinite_5 ?_
  refine k_Real_set hC true rfl ho wd_28 (by decide) (Nat.le_of_ble_eq_true rfl) d_Real_setIndefinite_8 ?_
  refine wi_nmC (fun s1 e_s1 => ?_)
  have hf : f_Real_setIndefinite σ o = s1 := by subst e_s1; exact rfl
  exact wi_vret hC hr hk d_Real_setIndefinite_11 rfl (congrArg (fun z => (z, τ, q)) hf).symm hQ
theorem k_Real_setIndefinite {p : Program} {l : Launch} {e : Env} {R : Room} {s : State} {m : MethodId} {args : Array Value} {below : List Frame} {meth : Method} {c : Code} {Q : State → Prop} {E : Ev} {nL pc index : Nat} {lv : List (Nat × Value)} {rest : List Value} {cc : ByteArray} {own : String} {σ τ : St} {q : Int64} {o : Nat} (hC : Cx p s m args c cc nL own E)  (ho : isReal o) (hl : Cond.methodLink own index y_Real_setIndefinite ∈ WL) (hR : 1 + 1 ≤ R.frames ∧ 8 + (1 + 11) + 24 ≤ R.locals) (hs8 : (rest.map fun v => v.category).sum ≤ 8) (d : decode cc pc = .ok (.invokevirtual index, 3)) (k : WS p l e R s m args below meth c Q E nL (pc + 3) lv rest ((f_Real_setIndefinite σ o), τ, q)) : WS p l e R s m args below meth c Q E nL pc lv (.ref o :: rest) (σ, τ, q) := by
  exact wi_callV hC (n := 0) (vs := []) (rest := rest) o 5 (lt_Real ho) (wc_Real ho) rfl rfl (c_Real_setIndefinite l E σ τ q o ho) (by decide +kernel) wd_29 wd_4 wd_30 wd_31 ⟨rfl, rfl⟩ rfl rfl hl hR hs8 d k
set_option maxRecDepth 100000 in
set_option maxHeartbeats 4000000 in
theorem c_Real_take (l : Launch) (E : Ev) (σ τ : St) (q : Int64) (o : Nat) (a1 : Nat) (ho : isReal o) (ha1 : isReal a1) : MF l y_Real_take prog_7_method_12_code 2 none { frames := 0, cells := 0, slots := 0, locals := 0 } E [.ref o, .ref a1] (σ, τ, q) none ((f_Real_take σ o a1), τ, q) := by
  refine MF_intro (lv0 := [(0, .ref o), (1, .ref a1)]) (by decide) wd_32 (Nat.le_of_ble_eq_true rfl) rfl ?_
  intro p e s m args below meth c Q hC hr hk hQ
  replace hC : Cx p s m args c prog_7_method_12_code 2 "PartnerStack$Real" E := hC
  refine wi_aload_n hC 0 d_Real_take_0 rfl rfl ?_
  refine wi_aload_n hC 1 d_Real_take_1 rfl rfl ?_
  refine wg_Real_minus hC ha1 wd_0 d_Real_take_2 ?_
  refine wp_Real_minus hC ho (gZ σ 15 a1) rfl wd_0 d_Real_take_5 ?_
  refine wi_nmC (fun s1 e_s1 => ?_)
  refine wi_aload_n hC 0 d_Real_take_8 rfl rfl ?_
  refine wi_aload_n hC 1 d_Real_take_9 rfl rfl ?_
  refine wg_Real_power hC ha1 wd_1 d_Real_take_10 ?_
  refine wp_Real_power hC ho wd_1 d_Real_take_13 ?_
  refine wi_nmC (fun s2 e_s2 => ?_)
  refine wi_aload_n hC 0 d_Real_take_16 rfl rfl ?_
  refine wi_aload_n hC 1 d_Real_take_17 rfl rfl ?_
  refine wg_Real_fraction hC ha1 wd_2 d_Real_take_18 ?_
  refine wp_Real_fraction hC ho wd_2 d_Real_take_21 ?_
  refine wi_nmC (fun s3 e_s3 => ?_)
  have hf : f_Real_take σ o a1 = s3 := by subst e_s3; subst e_s2; subst e_s1; exact rfl
  exact wi_vret hC hr hk d_Real_take_24 rfl (congrArg (fun z => (z, τ, q)) hf).symm hQ
theorem k_Real_take {p : Program} {l : Launch} {e : Env} {R : Room} {s : State} {m : MethodId} {args : Array Value} {below : List Frame} {meth : Method} {c : Code} {Q : State → Prop} {E : Ev} {nL pc index : Nat} {lv : List (Nat × Value)} {rest : List Value} {cc : ByteArray} {own : String} {σ τ : St} {q : Int64} {o : Nat} {a1 : Nat} (hC : Cx p s m args c cc nL own E)  (ho : isReal o) (ha1 : isReal a1) (hl : Cond.methodLink own index y_Real_take ∈ WL) (hR : 0 + 1 ≤ R.frames ∧ 8 + (2 + 11) + 0 ≤ R.locals) (hs8 : (rest.map fun v => v.category).sum ≤ 8) (d : decode cc pc = .ok (.invokevirtual index, 3)) (k : WS p l e R s m args below meth c Q E nL (pc + 3) lv rest ((f_Real_take σ o a1), τ, q)) : WS p l e R s m args below meth c Q E nL pc lv (.ref a1 :: .ref o :: rest) (σ, τ, q) := by
  exact wi_callV hC (n := 1) (vs := [.ref a1]) (rest := rest) o 5 (lt_Real ho) (wc_Real ho) rfl rfl (c_Real_take l E σ τ q o a1 ho ha1) (by decide +kernel) wd_32 wd_4 wd_33 wd_34 ⟨rfl, rfl⟩ rfl rfl hl hR hs8 d k
set_option maxRecDepth 100000 in
set_option maxHeartbeats 4000000 in
theorem c_Ctl_ends (l : Launch) (E : Ev) (σ τ : St) (q : Int64)   : MF l y_Ctl_ends prog_2_method_4_code 1 (some .boolean) { frames := 0, cells := 0, slots := 0, locals := 0 } E [.ref 3] (σ, τ, q) (some (.int (bI (f_Ctl_ends σ)))) (σ, τ, q) := by
  refine MF_intro (lv0 := [(0, .ref 3)]) (by decide) wd_36 (Nat.le_of_ble_eq_true rfl) rfl ?_
  intro p e s m args below meth c Q hC hr hk hQ
  replace hC : Cx p s m args c prog_2_method_4_code 1 "PartnerStack$Control" E := hC
  refine wi_aload_n hC 0 d_Ctl_ends_0 rfl rfl ?_
  refine wg_Ctl_told hC wd_22 d_Ctl_ends_1 ?_
  refine wi_aload_n hC 0 d_Ctl_ends_4 rfl rfl ?_
  refine wg_Ctl_setting hC wd_35 d_Ctl_ends_5 ?_
  refine wi_iconst hC (-1) (by decide) d_Ctl_ends_8 ?_
  refine wi_ixor hC d_Ctl_ends_9 ?_
  refine wi_iand hC d_Ctl_ends_10 ?_
  refine wi_bipush hC 7 (by decide) d_Ctl_ends_11 ?_
  refine wi_iand hC d_Ctl_ends_13 ?_
  have Jt1 : ∀ (t1 : Bool), t1 = (
          if ((gI σ 7 3) &&& ((gI σ 6 3) ^^^ (-1))) &&& 7 = 0 then
            false
          else
            true) → WS p l e { frames := 0, cells := 0, slots := 0, locals := 0 } s m args below meth c Q E 1 22 [(0, .ref 3)] [.int (bI t1)] (σ, τ, q) := by
    intro t1  e_t1
    have hf : f_Ctl_ends σ = t1 := by subst e_t1; exact rfl
    exact wi_zret hC hr hk d_Ctl_ends_22 rfl (congrArg (fun z => some (Value.int (bI z))) hf) rfl hQ
  refine wi_if_eq hC 21 d_Ctl_ends_14 (by decide) (fun h1 => ?_) (fun h1 => ?_)
  · skip
    refine wi_iconst hC 0 (by decide) d_Ctl_ends_21 ?_
    exact Jt1 false (by exact ((if_pos h1)).symm)
  · skip
    refine wi_iconst hC 1 (by decide) d_Ctl_ends_17 ?_
    refine wi_goto hC 22 d_Ctl_ends_18 (by decide) ?_
    exact Jt1 true (by exact ((if_neg h1)).symm)
theorem k_Ctl_ends {p : Program} {l : Launch} {e : Env} {R : Room} {s : State} {m : MethodId} {args : Array Value} {below : List Frame} {meth : Method} {c : Code} {Q : State → Prop} {E : Ev} {nL pc index : Nat} {lv : List (Nat × Value)} {rest : List Value} {cc : ByteArray} {own : String} {σ τ : St} {q : Int64}  (hC : Cx p s m args c cc nL own E)   (hl : Cond.methodLink own index y_Ctl_ends ∈ WL) (hR : 0 + 1 ≤ R.frames ∧ 8 + (1 + 11) + 0 ≤ R.locals) (hs8 : (rest.map fun v => v.category).sum ≤ 8) (d : decode cc pc = .ok (.invokevirtual index, 3)) (k : WS p l e R s m args below meth c Q E nL (pc + 3) lv ((.int (bI (f_Ctl_ends σ))) :: rest) (σ, τ, q)) : WS p l e R s m args below meth c Q E nL pc lv (.ref 3 :: rest) (σ, τ, q) := by
  exact wi_callV hC (n := 0) (vs := []) (rest := rest) 3 2 (by decide) rfl rfl rfl (c_Ctl_ends l E σ τ q  ) (by decide +kernel) wd_36 wd_24 wd_37 wd_38 ⟨rfl, rfl⟩ rfl rfl hl hR hs8 d k
set_option maxRecDepth 100000 in
set_option maxHeartbeats 4000000 in
theorem c_Real_setZero (l : Launch) (E : Ev) (σ τ : St) (q : Int64) (o : Nat) (a1 : Bool) (ho : isReal o) : MF l y_Real_setZero prog_7_method_9_code 2 none { frames := 1, cells := 0, slots := 0, locals := 24 } E [.ref o, .int (bI a1)] (σ, τ, q) none ((f_Real_setZero σ o a1), τ, q) := by
  refine MF_intro (lv0 := [(0, .ref o), (1, .int (bI a1))]) (by decide) wd_39 (Nat.le_of_ble_eq_true rfl) rfl ?_
  intro p e s m args below meth c Q hC hr hk hQ
  replace hC : Cx p s m args c prog_7_method_9_code 2 "PartnerStack$Real" E := hC
  refine wi_aload_n hC 0 d_Real_setZero_0 rfl rfl ?_
  refine wi_iload_n hC 1 d_Real_setZero_1 rfl rfl ?_
  refine wi_iconst hC 0 (by decide) d_Real_setZero_2 ?_
  refine wi_lconst hC 0 (by decide) d_Real_setZero_3 ?_
  refine k_Real_set hC a1 rfl ho wd_28 (by decide) (Nat.le_of_ble_eq_true rfl) d_Real_setZero_4 ?_
  refine wi_nmC (fun s1 e_s1 => ?_)
  have hf : f_Real_setZero σ o a1 = s1 := by subst e_s1; exact rfl
  exact wi_vret hC hr hk d_Real_setZero_7 rfl (congrArg (fun z => (z, τ, q)) hf).symm hQ
theorem k_Real_setZero {p : Program} {l : Launch} {e : Env} {R : Room} {s : State} {m : MethodId} {args : Array Value} {below : List Frame} {meth : Method} {c : Code} {Q : State → Prop} {E : Ev} {nL pc index : Nat} {lv : List (Nat × Value)} {rest : List Value} {cc : ByteArray} {own : String} {σ τ : St} {q : Int64} {o : Nat} (hC : Cx p s m args c cc nL own E) {x_a1 : Int32} (a1 : Bool) (hx_a1 : x_a1 = bI a1) (ho : isReal o) (hl : Cond.methodLink own index y_Real_setZero ∈ WL) (hR : 1 + 1 ≤ R.frames ∧ 8 + (2 + 11) + 24 ≤ R.locals) (hs8 : (rest.map fun v => v.category).sum ≤ 8) (d : decode cc pc = .ok (.invokevirtual index, 3)) (k : WS p l e R s m args below meth c Q E nL (pc + 3) lv rest ((f_Real_setZero σ o a1), τ, q)) : WS p l e R s m args below meth c Q E nL pc lv (.int x_a1 :: .ref o :: rest) (σ, τ, q) := by
  subst hx_a1
  exact wi_callV hC (n := 1) (vs := [.int (bI a1)]) (rest := rest) o 5 (lt_Real ho) (wc_Real ho) rfl rfl (c_Real_setZero l E σ τ q o a1 ho) (by decide +kernel) wd_39 wd_4 wd_40 wd_41 ⟨rfl, rfl⟩ rfl rfl hl hR hs8 d k
set_option maxRecDepth 100000 in
set_option maxHeartbeats 4000000 in
theorem c_Ctl_knowsOneInfinite (l : Launch) (E : Ev) (σ τ : St) (q : Int64)   : MF l y_Ctl_knowsOneInfinite prog_2_method_9_code 1 (some .boolean) { frames := 0, cells := 0, slots := 0, locals := 0 } E [.ref 3] (σ, τ, q) (some (.int (bI (f_Ctl_knowsOneInfinite σ)))) (σ, τ, q) := by
  refine MF_intro (lv0 := [(0, .ref 3)]) (by decide) wd_42 (Nat.le_of_ble_eq_true rfl) rfl ?_
  intro p e s m args below meth c Q hC hr hk hQ
  replace hC : Cx p s m args c prog_2_method_9_code 1 "PartnerStack$Control" E := hC
  refine wi_aload_n hC 0 d_Ctl_knowsOneInfinite_0 rfl rfl ?_
  refine wg_Ctl_setting hC wd_35 d_Ctl_knowsOneInfinite_1 ?_
  refine wi_sipush hC 4096 (by decide) d_Ctl_knowsOneInfinite_4 ?_
  refine wi_iand hC d_Ctl_knowsOneInfinite_7 ?_
  have Jt1 : ∀ (t1 : Bool), t1 = (
          if (gI σ 6 3) &&& 4096 = 0 then
            true
          else
            false) → WS p l e { frames := 0, cells := 0, slots := 0, locals := 0 } s m args below meth c Q E 1 16 [(0, .ref 3)] [.int (bI t1)] (σ, τ, q) := by
    intro t1  e_t1
    have hf : f_Ctl_knowsOneInfinite σ = t1 := by subst e_t1; exact rfl
    exact wi_zret hC hr hk d_Ctl_knowsOneInfinite_16 rfl (congrArg (fun z => some (Value.int (bI z))) hf) rfl hQ
  refine wi_if_ne hC 15 d_Ctl_knowsOneInfinite_8 (by decide) (fun h1 => ?_) (fun h1 => ?_)
  · skip
    refine wi_iconst hC 0 (by decide) d_Ctl_knowsOneInfinite_15 ?_
    exact Jt1 false (by exact ((if_neg h1)).symm)
  · skip
    refine wi_iconst hC 1 (by decide) d_Ctl_knowsOneInfinite_11 ?_
    refine wi_goto hC 16 d_Ctl_knowsOneInfinite_12 (by decide) ?_
    exact Jt1 true (by exact ((if_pos h1)).symm)
theorem k_Ctl_knowsOneInfinite {p : Program} {l : Launch} {e : Env} {R : Room} {s : State} {m : MethodId} {args : Array Value} {below : List Frame} {meth : Method} {c : Code} {Q : State → Prop} {E : Ev} {nL pc index : Nat} {lv : List (Nat × Value)} {rest : List Value} {cc : ByteArray} {own : String} {σ τ : St} {q : Int64}  (hC : Cx p s m args c cc nL own E)   (hl : Cond.methodLink own index y_Ctl_knowsOneInfinite ∈ WL) (hR : 0 + 1 ≤ R.frames ∧ 8 + (1 + 11) + 0 ≤ R.locals) (hs8 : (rest.map fun v => v.category).sum ≤ 8) (d : decode cc pc = .ok (.invokevirtual index, 3)) (k : WS p l e R s m args below meth c Q E nL (pc + 3) lv ((.int (bI (f_Ctl_knowsOneInfinite σ))) :: rest) (σ, τ, q)) : WS p l e R s m args below meth c Q E nL pc lv (.ref 3 :: rest) (σ, τ, q) := by
  exact wi_callV hC (n := 0) (vs := []) (rest := rest) 3 2 (by decide) rfl rfl rfl (c_Ctl_knowsOneInfinite l E σ τ q  ) (by decide +kernel) wd_42 wd_24 wd_43 wd_44 ⟨rfl, rfl⟩ rfl rfl hl hR hs8 d k
set_option maxRecDepth 100000 in
set_option maxHeartbeats 4000000 in
theorem c_Real_isInfinite (l : Launch) (E : Ev) (σ τ : St) (q : Int64) (o : Nat) (ho : isReal o) : MF l y_Real_isInfinite prog_7_method_3_code 1 (some .boolean) { frames := 0, cells := 0, slots := 0, locals := 0 } E [.ref o] (σ, τ, q) (some (.int (bI (f_Real_isInfinite σ o)))) (σ, τ, q) := by
  refine MF_intro (lv0 := [(0, .ref o)]) (by decide) wd_45 (Nat.le_of_ble_eq_true rfl) rfl ?_
  intro p e s m args below meth c Q hC hr hk hQ
  replace hC : Cx p s m args c prog_7_method_3_code 1 "PartnerStack$Real" E := hC
  refine wi_aload_n hC 0 d_Real_isInfinite_0 rfl rfl ?_
  refine wg_Real_power hC ho wd_1 d_Real_isInfinite_1 ?_
  refine wi_sipush hC 32767 (by decide) d_Real_isInfinite_4 ?_
  have Jt1 : ∀ (t1 : Bool), t1 = (
          if gI σ 16 o = 32767 then
            if jlshl (gJ σ 17 o) 1 = 0 then
              true
            else
              false
          else
            false) → WS p l e { frames := 0, cells := 0, slots := 0, locals := 0 } s m args below meth c Q E 1 26 [(0, .ref o)] [.int (bI t1)] (σ, τ, q) := by
    intro t1  e_t1
    have hf : f_Real_isInfinite σ o = t1 := by subst e_t1; exact rfl
    exact wi_zret hC hr hk d_Real_isInfinite_26 rfl (congrArg (fun z => some (Value.int (bI z))) hf) rfl hQ
  refine wi_icmp_ne hC 25 d_Real_isInfinite_7 (by decide) (fun h1 => ?_) (fun h1 => ?_)
  · skip
    refine wi_iconst hC 0 (by decide) d_Real_isInfinite_25 ?_
    exact Jt1 false (by exact ((if_neg h1)).symm)
  · skip
    refine wi_aload_n hC 0 d_Real_isInfinite_10 rfl rfl ?_
    refine wg_Real_fraction hC ho wd_2 d_Real_isInfinite_11 ?_
    refine wi_iconst hC 1 (by decide) d_Real_isInfinite_14 ?_
    refine wi_lshl hC d_Real_isInfinite_15 ?_
    refine wi_lconst hC 0 (by decide) d_Real_isInfinite_16 ?_
    refine wi_lcmp_ne hC 25 d_Real_isInfinite_17 d_Real_isInfinite_18 (by decide) (fun h2 => ?_) (fun h2 => ?_)
    · skip
      refine wi_iconst hC 0 (by decide) d_Real_isInfinite_25 ?_
      exact Jt1 false (by exact ((Eq.trans (if_pos h1) (if_neg h2))).symm)
    · skip
      refine wi_iconst hC 1 (by decide) d_Real_isInfinite_21 ?_
      refine wi_goto hC 26 d_Real_isInfinite_22 (by decide) ?_
      exact Jt1 true (by exact ((Eq.trans (if_pos h1) (if_pos h2))).symm)
theorem k_Real_isInfinite {p : Program} {l : Launch} {e : Env} {R : Room} {s : State} {m : MethodId} {args : Array Value} {below : List Frame} {meth : Method} {c : Code} {Q : State → Prop} {E : Ev} {nL pc index : Nat} {lv : List (Nat × Value)} {rest : List Value} {cc : ByteArray} {own : String} {σ τ : St} {q : Int64} {o : Nat} (hC : Cx p s m args c cc nL own E)  (ho : isReal o) (hl : Cond.methodLink own index y_Real_isInfinite ∈ WL) (hR : 0 + 1 ≤ R.frames ∧ 8 + (1 + 11) + 0 ≤ R.locals) (hs8 : (rest.map fun v => v.category).sum ≤ 8) (d : decode cc pc = .ok (.invokevirtual index, 3)) (k : WS p l e R s m args below meth c Q E nL (pc + 3) lv ((.int (bI (f_Real_isInfinite σ o))) :: rest) (σ, τ, q)) : WS p l e R s m args below meth c Q E nL pc lv (.ref o :: rest) (σ, τ, q) := by
  exact wi_callV hC (n := 0) (vs := []) (rest := rest) o 5 (lt_Real ho) (wc_Real ho) rfl rfl (c_Real_isInfinite l E σ τ q o ho) (by decide +kernel) wd_45 wd_4 wd_46 wd_47 ⟨rfl, rfl⟩ rfl rfl hl hR hs8 d k
set_option maxRecDepth 100000 in
set_option maxHeartbeats 4000000 in
theorem c_Real_goesBefore (l : Launch) (E : Ev) (σ τ : St) (q : Int64) (o : Nat) (a1 : Nat) (ho : isReal o) (ha1 : isReal a1) : MF l y_Real_goesBefore prog_7_method_14_code 2 (some .boolean) { frames := 0, cells := 0, slots := 0, locals := 0 } E [.ref o, .ref a1] (σ, τ, q) (some (.int (bI (f_Real_goesBefore σ o a1)))) (σ, τ, q) := by
  refine MF_intro (lv0 := [(0, .ref o), (1, .ref a1)]) (by decide) wd_49 (Nat.le_of_ble_eq_true rfl) rfl ?_
  intro p e s m args below meth c Q hC hr hk hQ
  replace hC : Cx p s m args c prog_7_method_14_code 2 "PartnerStack$Real" E := hC
  refine wi_aload_n hC 0 d_Real_goesBefore_0 rfl rfl ?_
  refine wg_Real_fraction hC ho wd_2 d_Real_goesBefore_1 ?_
  refine wi_aload_n hC 1 d_Real_goesBefore_4 rfl rfl ?_
  refine wg_Real_fraction hC ha1 wd_2 d_Real_goesBefore_5 ?_
  refine wi_lcmp_ne hC 32 d_Real_goesBefore_8 d_Real_goesBefore_9 (by decide) (fun h1 => ?_) (fun h1 => ?_)
  · skip
    refine wi_aload_n hC 0 d_Real_goesBefore_32 rfl rfl ?_
    refine wg_Real_fraction hC ho wd_2 d_Real_goesBefore_33 ?_
    refine wi_ldc2 hC wd_48 d_Real_goesBefore_36 ?_
    refine wi_lxor hC d_Real_goesBefore_39 ?_
    refine wi_aload_n hC 1 d_Real_goesBefore_40 rfl rfl ?_
    refine wg_Real_fraction hC ha1 wd_2 d_Real_goesBefore_41 ?_
    refine wi_ldc2 hC wd_48 d_Real_goesBefore_44 ?_
    refine wi_lxor hC d_Real_goesBefore_47 ?_
    have Jt1 : ∀ (t1 : Bool), t1 = (
            if ((gJ σ 17 o) ^^^ (-9223372036854775808)) ≤ ((gJ σ 17 a1) ^^^ (-9223372036854775808)) then
              false
            else
              true) → WS p l e { frames := 0, cells := 0, slots := 0, locals := 0 } s m args below meth c Q E 2 57 [(0, .ref o), (1, .ref a1)] [.int (bI t1)] (σ, τ, q) := by
      intro t1  e_t1
      have hf : f_Real_goesBefore σ o a1 = t1 := by subst e_t1; exact (if_neg h1)
      exact wi_zret hC hr hk d_Real_goesBefore_57 rfl (congrArg (fun z => some (Value.int (bI z))) hf) rfl hQ
    refine wi_lcmp_le hC 56 d_Real_goesBefore_48 d_Real_goesBefore_49 (by decide) (fun h2 => ?_) (fun h2 => ?_)
    · skip
      refine wi_iconst hC 0 (by decide) d_Real_goesBefore_56 ?_
      exact Jt1 false (by exact ((if_pos h2)).symm)
    · skip
      refine wi_iconst hC 1 (by decide) d_Real_goesBefore_52 ?_
      refine wi_goto hC 57 d_Real_goesBefore_53 (by decide) ?_
      exact Jt1 true (by exact ((if_neg h2)).symm)
  · skip
    refine wi_aload_n hC 0 d_Real_goesBefore_12 rfl rfl ?_
    refine wg_Real_minus hC ho wd_0 d_Real_goesBefore_13 ?_
    have Jt2 : ∀ (t2 : Bool), t2 = (
            if gZ σ 15 o = true then
              false
            else
              if gZ σ 15 a1 = true then
                true
              else
                false) → WS p l e { frames := 0, cells := 0, slots := 0, locals := 0 } s m args below meth c Q E 2 31 [(0, .ref o), (1, .ref a1)] [.int (bI t2)] (σ, τ, q) := by
      intro t2  e_t2
      have hf : f_Real_goesBefore σ o a1 = t2 := by subst e_t2; exact (if_pos h1)
      exact wi_zret hC hr hk d_Real_goesBefore_31 rfl (congrArg (fun z => some (Value.int (bI z))) hf) rfl hQ
    refine wi_z_ne (b := (gZ σ 15 o)) hC 30 d_Real_goesBefore_16 (by decide) (fun h3 => ?_) (fun h3 => ?_)
    · skip
      refine wi_iconst hC 0 (by decide) d_Real_goesBefore_30 ?_
      exact Jt2 false (by exact ((if_pos h3)).symm)
    · skip
      refine wi_aload_n hC 1 d_Real_goesBefore_19 rfl rfl ?_
      refine wg_Real_minus hC ha1 wd_0 d_Real_goesBefore_20 ?_
      refine wi_z_eq (b := (gZ σ 15 a1)) hC 30 d_Real_goesBefore_23 (by decide) (fun h4 => ?_) (fun h4 => ?_)
      · skip
        refine wi_iconst hC 0 (by decide) d_Real_goesBefore_30 ?_
        exact Jt2 false (by exact ((Eq.trans (if_neg h3) (if_neg h4))).symm)
      · skip
        refine wi_iconst hC 1 (by decide) d_Real_goesBefore_26 ?_
        refine wi_goto hC 31 d_Real_goesBefore_27 (by decide) ?_
        exact Jt2 true (by exact ((Eq.trans (if_neg h3) (if_pos h4))).symm)
theorem k_Real_goesBefore {p : Program} {l : Launch} {e : Env} {R : Room} {s : State} {m : MethodId} {args : Array Value} {below : List Frame} {meth : Method} {c : Code} {Q : State → Prop} {E : Ev} {nL pc index : Nat} {lv : List (Nat × Value)} {rest : List Value} {cc : ByteArray} {own : String} {σ τ : St} {q : Int64} {o : Nat} {a1 : Nat} (hC : Cx p s m args c cc nL own E)  (ho : isReal o) (ha1 : isReal a1) (hl : Cond.methodLink own index y_Real_goesBefore ∈ WL) (hR : 0 + 1 ≤ R.frames ∧ 8 + (2 + 11) + 0 ≤ R.locals) (hs8 : (rest.map fun v => v.category).sum ≤ 8) (d : decode cc pc = .ok (.invokevirtual index, 3)) (k : WS p l e R s m args below meth c Q E nL (pc + 3) lv ((.int (bI (f_Real_goesBefore σ o a1))) :: rest) (σ, τ, q)) : WS p l e R s m args below meth c Q E nL pc lv (.ref a1 :: .ref o :: rest) (σ, τ, q) := by
  exact wi_callV hC (n := 1) (vs := [.ref a1]) (rest := rest) o 5 (lt_Real ho) (wc_Real ho) rfl rfl (c_Real_goesBefore l E σ τ q o a1 ho ha1) (by decide +kernel) wd_49 wd_4 wd_50 wd_51 ⟨rfl, rfl⟩ rfl rfl hl hR hs8 d k
set_option maxRecDepth 100000 in
set_option maxHeartbeats 4000000 in
theorem c_Real_takeNoNumber (l : Launch) (E : Ev) (σ τ : St) (q : Int64) (o : Nat) (a1 : Nat) (a2 : Nat) (ho : isReal o) (ha1 : isReal a1) (ha2 : isReal a2) : MF l y_Real_takeNoNumber prog_7_method_13_code 5 (some .boolean) { frames := 1, cells := 0, slots := 0, locals := 21 } E [.ref o, .ref a1, .ref a2] (σ, τ, q) (some (.int (bI ((f_Real_takeNoNumber σ o a1 a2).1)))) ((f_Real_takeNoNumber σ o a1 a2).2, τ, q) := by
  refine MF_intro (lv0 := [(0, .ref o), (1, .ref a1), (2, .ref a2)]) (by decide) wd_54 (Nat.le_of_ble_eq_true rfl) rfl ?_
  intro p e s m args below meth c Q hC hr hk hQ
  replace hC : Cx p s m args c prog_7_method_13_code 5 "PartnerStack$Real" E := hC
  refine wi_aload_n hC 1 d_Real_takeNoNumber_0 rfl rfl ?_
  refine k_Real_kind hC ha1 wd_14 (by decide) (Nat.le_of_ble_eq_true rfl) d_Real_takeNoNumber_1 ?_
  refine wi_iconst hC 5 (by decide) d_Real_takeNoNumber_4 ?_
  have Jt1 : ∀ (t1 : Bool), t1 = (
          if f_Real_kind σ a1 = 5 then
            true
          else
            false) → WS p l e { frames := 1, cells := 0, slots := 0, locals := 21 } s m args below meth c Q E 5 13 [(0, .ref o), (1, .ref a1), (2, .ref a2)] [.int (bI t1)] (σ, τ, q) := by
    intro t1  e_t1
    refine wi_istore_n hC [(3, .int (bI t1)), (0, .ref o), (1, .ref a1), (2, .ref a2)] d_Real_takeNoNumber_13 rfl (by decide) rfl ?_
    refine wi_aload_n hC 3 d_Real_takeNoNumber_14 rfl rfl ?_
    refine k_Real_kind hC ha2 wd_14 (by decide) (Nat.le_of_ble_eq_true rfl) d_Real_takeNoNumber_15 ?_
    refine wi_iconst hC 5 (by decide) d_Real_takeNoNumber_18 ?_
    have Jt2 : ∀ (t2 : Bool), t2 = (
            if f_Real_kind σ a2 = 5 then
              true
            else
              false) → WS p l e { frames := 1, cells := 0, slots := 0, locals := 21 } s m args below meth c Q E 5 27 [(3, .int (bI t1)), (0, .ref o), (1, .ref a1), (2, .ref a2)] [.int (bI t2)] (σ, τ, q) := by
      intro t2  e_t2
      refine wi_istore hC [(4, .int (bI t2)), (3, .int (bI t1)), (0, .ref o), (1, .ref a1), (2, .ref a2)] d_Real_takeNoNumber_27 (by decide) rfl ?_
      refine wi_iload_n hC 1 d_Real_takeNoNumber_29 rfl rfl ?_
      refine wi_z_ne (b := t1) hC 40 d_Real_takeNoNumber_30 (by decide) (fun h3 => ?_) (fun h3 => ?_)
      · skip
        refine wi_aload_n hC 2 d_Real_takeNoNumber_40 rfl rfl ?_
        refine wi_iload_n hC 1 d_Real_takeNoNumber_41 rfl rfl ?_
        have Jt3 : ∀ (t3 : Nat) (_ : isReal t3), t3 = (
                if t1 = true then
                  if t2 = true then
                    if f_Real_goesBefore σ a2 a1 = true then
                      a2
                    else
                      a1
                  else
                    a1
                else
                  a2) → WS p l e { frames := 1, cells := 0, slots := 0, locals := 21 } s m args below meth c Q E 5 63 [(4, .int (bI t2)), (3, .int (bI t1)), (0, .ref o), (1, .ref a1), (2, .ref a2)] [.ref t3, .ref o] (σ, τ, q) := by
          intro t3 hr_t3_0 e_t3
          refine k_Real_take hC ho hr_t3_0 wd_53 (by decide) (Nat.le_of_ble_eq_true rfl) d_Real_takeNoNumber_63 ?_
          refine wi_nmC (fun s1 e_s1 => ?_)
          refine wi_iconst hC 1 (by decide) d_Real_takeNoNumber_66 ?_
          have hf : f_Real_takeNoNumber σ o a1 a2 = (true, s1) := by subst e_s1; subst e_t3; subst e_t2; subst e_t1; exact (if_pos h3)
          exact wi_zret hC hr hk d_Real_takeNoNumber_67 rfl (congrArg (fun z => some (Value.int (bI z.1))) hf) (congrArg (fun z => (z.2, τ, q)) hf).symm hQ
        refine wi_z_eq (b := t1) hC 62 d_Real_takeNoNumber_42 (by decide) (fun h4 => ?_) (fun h4 => ?_)
        · skip
          refine wi_aload_n hC 4 d_Real_takeNoNumber_62 rfl rfl ?_
          exact Jt3 a2 ha2 (by exact ((if_neg h4)).symm)
        · skip
          refine wi_iload hC 0 d_Real_takeNoNumber_45 rfl ?_
          refine wi_z_eq (b := t2) hC 58 d_Real_takeNoNumber_47 (by decide) (fun h5 => ?_) (fun h5 => ?_)
          · skip
            refine wi_aload_n hC 3 d_Real_takeNoNumber_58 rfl rfl ?_
            refine wi_goto hC 63 d_Real_takeNoNumber_59 (by decide) ?_
            exact Jt3 a1 ha1 (by exact ((Eq.trans (if_pos h4) (if_neg h5))).symm)
          · skip
            refine wi_aload_n hC 4 d_Real_takeNoNumber_50 rfl rfl ?_
            refine wi_aload_n hC 3 d_Real_takeNoNumber_51 rfl rfl ?_
            refine k_Real_goesBefore hC ha2 ha1 wd_52 (by decide) (Nat.le_of_ble_eq_true rfl) d_Real_takeNoNumber_52 ?_
            refine wi_z_ne (b := (f_Real_goesBefore σ a2 a1)) hC 62 d_Real_takeNoNumber_55 (by decide) (fun h6 => ?_) (fun h6 => ?_)
            · skip
              refine wi_aload_n hC 4 d_Real_takeNoNumber_62 rfl rfl ?_
              exact Jt3 a2 ha2 (by exact ((Eq.trans (if_pos h4) (Eq.trans (if_pos h5) (if_pos h6)))).symm)
            · skip
              refine wi_aload_n hC 3 d_Real_takeNoNumber_58 rfl rfl ?_
              refine wi_goto hC 63 d_Real_takeNoNumber_59 (by decide) ?_
              exact Jt3 a1 ha1 (by exact ((Eq.trans (if_pos h4) (Eq.trans (if_pos h5) (if_neg h6)))).symm)
      · skip
        refine wi_iload hC 0 d_Real_takeNoNumber_33 rfl ?_
        refine wi_z_ne (b := t2) hC 40 d_Real_takeNoNumber_35 (by decide) (fun h7 => ?_) (fun h7 => ?_)
        · skip
          refine wi_aload_n hC 2 d_Real_takeNoNumber_40 rfl rfl ?_
          refine wi_iload_n hC 1 d_Real_takeNoNumber_41 rfl rfl ?_
          have Jt4 : ∀ (t4 : Nat) (_ : isReal t4), t4 = (
                  if t1 = true then
                    if t2 = true then
                      if f_Real_goesBefore σ a2 a1 = true then
                        a2
                      else
                        a1
                    else
                      a1
                  else
                    a2) → WS p l e { frames := 1, cells := 0, slots := 0, locals := 21 } s m args below meth c Q E 5 63 [(4, .int (bI t2)), (3, .int (bI t1)), (0, .ref o), (1, .ref a1), (2, .ref a2)] [.ref t4, .ref o] (σ, τ, q) := by
            intro t4 hr_t4_0 e_t4
            refine k_Real_take hC ho hr_t4_0 wd_53 (by decide) (Nat.le_of_ble_eq_true rfl) d_Real_takeNoNumber_63 ?_
            refine wi_nmC (fun s2 e_s2 => ?_)
            refine wi_iconst hC 1 (by decide) d_Real_takeNoNumber_66 ?_
            have hf : f_Real_takeNoNumber σ o a1 a2 = (true, s2) := by subst e_s2; subst e_t4; subst e_t2; subst e_t1; exact (Eq.trans (if_neg h3) (if_pos h7))
            exact wi_zret hC hr hk d_Real_takeNoNumber_67 rfl (congrArg (fun z => some (Value.int (bI z.1))) hf) (congrArg (fun z => (z.2, τ, q)) hf).symm hQ
          refine wi_z_eq (b := t1) hC 62 d_Real_takeNoNumber_42 (by decide) (fun h8 => ?_) (fun h8 => ?_)
          · skip
            refine wi_aload_n hC 4 d_Real_takeNoNumber_62 rfl rfl ?_
            exact Jt4 a2 ha2 (by exact ((if_neg h8)).symm)
          · skip
            refine wi_iload hC 0 d_Real_takeNoNumber_45 rfl ?_
            refine wi_z_eq (b := t2) hC 58 d_Real_takeNoNumber_47 (by decide) (fun h9 => ?_) (fun h9 => ?_)
            · skip
              refine wi_aload_n hC 3 d_Real_takeNoNumber_58 rfl rfl ?_
              refine wi_goto hC 63 d_Real_takeNoNumber_59 (by decide) ?_
              exact Jt4 a1 ha1 (by exact ((Eq.trans (if_pos h8) (if_neg h9))).symm)
            · skip
              refine wi_aload_n hC 4 d_Real_takeNoNumber_50 rfl rfl ?_
              refine wi_aload_n hC 3 d_Real_takeNoNumber_51 rfl rfl ?_
              refine k_Real_goesBefore hC ha2 ha1 wd_52 (by decide) (Nat.le_of_ble_eq_true rfl) d_Real_takeNoNumber_52 ?_
              refine wi_z_ne (b := (f_Real_goesBefore σ a2 a1)) hC 62 d_Real_takeNoNumber_55 (by decide) (fun h10 => ?_) (fun h10 => ?_)
              · skip
                refine wi_aload_n hC 4 d_Real_takeNoNumber_62 rfl rfl ?_
                exact Jt4 a2 ha2 (by exact ((Eq.trans (if_pos h8) (Eq.trans (if_pos h9) (if_pos h10)))).symm)
              · skip
                refine wi_aload_n hC 3 d_Real_takeNoNumber_58 rfl rfl ?_
                refine wi_goto hC 63 d_Real_takeNoNumber_59 (by decide) ?_
                exact Jt4 a1 ha1 (by exact ((Eq.trans (if_pos h8) (Eq.trans (if_pos h9) (if_neg h10)))).symm)
        · skip
          refine wi_iconst hC 0 (by decide) d_Real_takeNoNumber_38 ?_
          have hf : f_Real_takeNoNumber σ o a1 a2 = (false, σ) := by subst e_t2; subst e_t1; exact (Eq.trans (if_neg h3) (if_neg h7))
          exact wi_zret hC hr hk d_Real_takeNoNumber_39 rfl (congrArg (fun z => some (Value.int (bI z.1))) hf) (congrArg (fun z => (z.2, τ, q)) hf).symm hQ
    refine wi_icmp_ne hC 26 d_Real_takeNoNumber_19 (by decide) (fun h2 => ?_) (fun h2 => ?_)
    · skip
      refine wi_iconst hC 0 (by decide) d_Real_takeNoNumber_26 ?_
      exact Jt2 false (by exact ((if_neg h2)).symm)
    · skip
      refine wi_iconst hC 1 (by decide) d_Real_takeNoNumber_22 ?_
      refine wi_goto hC 27 d_Real_takeNoNumber_23 (by decide) ?_
      exact Jt2 true (by exact ((if_pos h2)).symm)
  refine wi_icmp_ne hC 12 d_Real_takeNoNumber_5 (by decide) (fun h1 => ?_) (fun h1 => ?_)
  · skip
    refine wi_iconst hC 0 (by decide) d_Real_takeNoNumber_12 ?_
    exact Jt1 false (by exact ((if_neg h1)).symm)
  · skip
    refine wi_iconst hC 1 (by decide) d_Real_takeNoNumber_8 ?_
    refine wi_goto hC 13 d_Real_takeNoNumber_9 (by decide) ?_
    exact Jt1 true (by exact ((if_pos h1)).symm)
theorem k_Real_takeNoNumber {p : Program} {l : Launch} {e : Env} {R : Room} {s : State} {m : MethodId} {args : Array Value} {below : List Frame} {meth : Method} {c : Code} {Q : State → Prop} {E : Ev} {nL pc index : Nat} {lv : List (Nat × Value)} {rest : List Value} {cc : ByteArray} {own : String} {σ τ : St} {q : Int64} {o : Nat} {a1 : Nat} {a2 : Nat} (hC : Cx p s m args c cc nL own E)  (ho : isReal o) (ha1 : isReal a1) (ha2 : isReal a2) (hl : Cond.methodLink own index y_Real_takeNoNumber ∈ WL) (hR : 1 + 1 ≤ R.frames ∧ 8 + (5 + 11) + 21 ≤ R.locals) (hs8 : (rest.map fun v => v.category).sum ≤ 8) (d : decode cc pc = .ok (.invokevirtual index, 3)) (k : WS p l e R s m args below meth c Q E nL (pc + 3) lv ((.int (bI ((f_Real_takeNoNumber σ o a1 a2).1))) :: rest) ((f_Real_takeNoNumber σ o a1 a2).2, τ, q)) : WS p l e R s m args below meth c Q E nL pc lv (.ref a2 :: .ref a1 :: .ref o :: rest) (σ, τ, q) := by
  exact wi_callV hC (n := 2) (vs := [.ref a1, .ref a2]) (rest := rest) o 5 (lt_Real ho) (wc_Real ho) rfl rfl (c_Real_takeNoNumber l E σ τ q o a1 a2 ho ha1 ha2) (by decide +kernel) wd_54 wd_4 wd_55 wd_56 ⟨rfl, rfl⟩ rfl rfl hl hR hs8 d k
set_option maxRecDepth 100000 in
set_option maxHeartbeats 4000000 in
theorem c_Ctl_settles (l : Launch) (E : Ev) (σ τ : St) (q : Int64) (a1 : Nat) (a2 : Nat) (a3 : Bool) (a4 : Nat) (ha1 : isReal a1) (ha2 : isReal a2) (ha4 : isReal a4) : MF l y_Ctl_settles prog_2_method_10_code 5 (some .boolean) { frames := 2, cells := 0, slots := 0, locals := 45 } E [.ref 3, .ref a1, .ref a2, .int (bI a3), .ref a4] (σ, τ, q) (some (.int (bI ((f_Ctl_settles σ a1 a2 a3 a4).1)))) ((f_Ctl_settles σ a1 a2 a3 a4).2, τ, q) := by
  refine MF_intro (lv0 := [(0, .ref 3), (1, .ref a1), (2, .ref a2), (3, .int (bI a3)), (4, .ref a4)]) (by decide) wd_62 (Nat.le_of_ble_eq_true rfl) rfl ?_
  intro p e s m args below meth c Q hC hr hk hQ
  replace hC : Cx p s m args c prog_2_method_10_code 5 "PartnerStack$Control" E := hC
  refine wi_aload hC 4 d_Ctl_settles_0 rfl ?_
  refine wi_aload_n hC 1 d_Ctl_settles_2 rfl rfl ?_
  refine wi_aload_n hC 2 d_Ctl_settles_3 rfl rfl ?_
  refine k_Real_takeNoNumber hC ha4 ha1 ha2 wd_57 (by decide) (Nat.le_of_ble_eq_true rfl) d_Ctl_settles_4 ?_
  obtain ⟨r1, e_r1⟩ : ∃ y : Bool × St, y = f_Real_takeNoNumber σ a4 a1 a2 := ⟨_, rfl⟩
  rw [← e_r1]
  refine wi_z_eq (b := r1.1) hC 17 d_Ctl_settles_7 (by decide) (fun h1 => ?_) (fun h1 => ?_)
  · skip
    refine wi_iload_n hC 3 d_Ctl_settles_17 rfl rfl ?_
    refine wi_z_eq (b := a3) hC 33 d_Ctl_settles_18 (by decide) (fun h2 => ?_) (fun h2 => ?_)
    · skip
      refine wi_aload_n hC 1 d_Ctl_settles_33 rfl rfl ?_
      refine k_Real_kind hC ha1 wd_58 (by decide) (Nat.le_of_ble_eq_true rfl) d_Ctl_settles_34 ?_
      refine wi_iconst hC 1 (by decide) d_Ctl_settles_37 ?_
      have Jt1 : ∀ (t1 : St), t1 = (
              if f_Real_kind r1.2 a1 = 1 then
                let s1 : St := f_Ctl_tell r1.2 2
                s1
              else
                if f_Real_kind r1.2 a2 = 1 then
                  let s2 : St := f_Ctl_tell r1.2 2
                  s2
                else
                  r1.2) → WS p l e { frames := 2, cells := 0, slots := 0, locals := 45 } s m args below meth c Q E 5 54 [(0, .ref 3), (1, .ref a1), (2, .ref a2), (3, .int (bI a3)), (4, .ref a4)] [] (t1, τ, q) := by
        intro t1  e_t1
        refine wi_aload_n hC 0 d_Ctl_settles_54 rfl rfl ?_
        refine k_Ctl_ends hC  wd_60 (by decide) (Nat.le_of_ble_eq_true rfl) d_Ctl_settles_55 ?_
        have hf : f_Ctl_settles σ a1 a2 a3 a4 = (f_Ctl_ends t1, t1) := by subst e_t1; subst e_r1; exact (Eq.trans (if_neg h1) (if_neg h2))
        exact wi_zret hC hr hk d_Ctl_settles_58 rfl (congrArg (fun z => some (Value.int (bI z.1))) hf) (congrArg (fun z => (z.2, τ, q)) hf).symm hQ
      refine wi_icmp_eq hC 49 d_Ctl_settles_38 (by decide) (fun h3 => ?_) (fun h3 => ?_)
      · skip
        refine wi_aload_n hC 0 d_Ctl_settles_49 rfl rfl ?_
        refine wi_iconst hC 2 (by decide) d_Ctl_settles_50 ?_
        refine k_Ctl_tell hC  wd_59 (by decide) (Nat.le_of_ble_eq_true rfl) d_Ctl_settles_51 ?_
        refine wi_nmC (fun s1 e_s1 => ?_)
        exact Jt1 s1 (by subst e_s1; exact ((if_pos h3)).symm)
      · skip
        refine wi_aload_n hC 2 d_Ctl_settles_41 rfl rfl ?_
        refine k_Real_kind hC ha2 wd_58 (by decide) (Nat.le_of_ble_eq_true rfl) d_Ctl_settles_42 ?_
        refine wi_iconst hC 1 (by decide) d_Ctl_settles_45 ?_
        refine wi_icmp_ne hC 54 d_Ctl_settles_46 (by decide) (fun h4 => ?_) (fun h4 => ?_)
        · skip
          exact Jt1 r1.2 (by exact ((Eq.trans (if_neg h3) (if_neg h4))).symm)
        · skip
          refine wi_aload_n hC 0 d_Ctl_settles_49 rfl rfl ?_
          refine wi_iconst hC 2 (by decide) d_Ctl_settles_50 ?_
          refine k_Ctl_tell hC  wd_59 (by decide) (Nat.le_of_ble_eq_true rfl) d_Ctl_settles_51 ?_
          refine wi_nmC (fun s2 e_s2 => ?_)
          exact Jt1 s2 (by subst e_s2; exact ((Eq.trans (if_neg h3) (if_pos h4))).symm)
    · skip
      refine wi_aload_n hC 0 d_Ctl_settles_21 rfl rfl ?_
      refine wi_iconst hC 1 (by decide) d_Ctl_settles_22 ?_
      refine k_Ctl_tell hC  wd_59 (by decide) (Nat.le_of_ble_eq_true rfl) d_Ctl_settles_23 ?_
      refine wi_nmC (fun s3 e_s3 => ?_)
      refine wi_aload hC 4 d_Ctl_settles_26 rfl ?_
      refine k_Real_setIndefinite hC ha4 wd_61 (by decide) (Nat.le_of_ble_eq_true rfl) d_Ctl_settles_28 ?_
      refine wi_nmC (fun s4 e_s4 => ?_)
      refine wi_iconst hC 1 (by decide) d_Ctl_settles_31 ?_
      have hf : f_Ctl_settles σ a1 a2 a3 a4 = (true, s4) := by subst e_s4; subst e_s3; subst e_r1; exact (Eq.trans (if_neg h1) (if_pos h2))
      exact wi_zret hC hr hk d_Ctl_settles_32 rfl (congrArg (fun z => some (Value.int (bI z.1))) hf) (congrArg (fun z => (z.2, τ, q)) hf).symm hQ
  · skip
    refine wi_aload_n hC 0 d_Ctl_settles_10 rfl rfl ?_
    refine wi_iconst hC 1 (by decide) d_Ctl_settles_11 ?_
    refine k_Ctl_tell hC  wd_59 (by decide) (Nat.le_of_ble_eq_true rfl) d_Ctl_settles_12 ?_
    refine wi_nmC (fun s5 e_s5 => ?_)
    refine wi_iconst hC 1 (by decide) d_Ctl_settles_15 ?_
    have hf : f_Ctl_settles σ a1 a2 a3 a4 = (true, s5) := by subst e_s5; subst e_r1; exact (if_pos h1)
    exact wi_zret hC hr hk d_Ctl_settles_16 rfl (congrArg (fun z => some (Value.int (bI z.1))) hf) (congrArg (fun z => (z.2, τ, q)) hf).symm hQ
theorem k_Ctl_settles {p : Program} {l : Launch} {e : Env} {R : Room} {s : State} {m : MethodId} {args : Array Value} {below : List Frame} {meth : Method} {c : Code} {Q : State → Prop} {E : Ev} {nL pc index : Nat} {lv : List (Nat × Value)} {rest : List Value} {cc : ByteArray} {own : String} {σ τ : St} {q : Int64} {a1 : Nat} {a2 : Nat} {a4 : Nat} (hC : Cx p s m args c cc nL own E) {x_a3 : Int32} (a3 : Bool) (hx_a3 : x_a3 = bI a3) (ha1 : isReal a1) (ha2 : isReal a2) (ha4 : isReal a4) (hl : Cond.methodLink own index y_Ctl_settles ∈ WL) (hR : 2 + 1 ≤ R.frames ∧ 8 + (5 + 11) + 45 ≤ R.locals) (hs8 : (rest.map fun v => v.category).sum ≤ 8) (d : decode cc pc = .ok (.invokevirtual index, 3)) (k : WS p l e R s m args below meth c Q E nL (pc + 3) lv ((.int (bI ((f_Ctl_settles σ a1 a2 a3 a4).1))) :: rest) ((f_Ctl_settles σ a1 a2 a3 a4).2, τ, q)) : WS p l e R s m args below meth c Q E nL pc lv (.ref a4 :: .int x_a3 :: .ref a2 :: .ref a1 :: .ref 3 :: rest) (σ, τ, q) := by
  subst hx_a3
  exact wi_callV hC (n := 4) (vs := [.ref a1, .ref a2, .int (bI a3), .ref a4]) (rest := rest) 3 2 (by decide) rfl rfl rfl (c_Ctl_settles l E σ τ q a1 a2 a3 a4 ha1 ha2 ha4) (by decide +kernel) wd_62 wd_24 wd_63 wd_64 ⟨rfl, rfl⟩ rfl rfl hl hR hs8 d k
set_option maxRecDepth 100000 in
set_option maxHeartbeats 4000000 in
theorem c_Real_isUnnormalSomething (l : Launch) (E : Ev) (σ τ : St) (q : Int64) (o : Nat) (ho : isReal o) : MF l y_Real_isUnnormalSomething prog_7_method_5_code 1 (some .boolean) { frames := 0, cells := 0, slots := 0, locals := 0 } E [.ref o] (σ, τ, q) (some (.int (bI (f_Real_isUnnormalSomething σ o)))) (σ, τ, q) := by
  refine MF_intro (lv0 := [(0, .ref o)]) (by decide) wd_65 (Nat.le_of_ble_eq_true rfl) rfl ?_
  intro p e s m args below meth c Q hC hr hk hQ
  replace hC : Cx p s m args c prog_7_method_5_code 1 "PartnerStack$Real" E := hC
  refine wi_aload_n hC 0 d_Real_isUnnormalSomething_0 rfl rfl ?_
  refine wg_Real_fraction hC ho wd_2 d_Real_isUnnormalSomething_1 ?_
  refine wi_lconst hC 0 (by decide) d_Real_isUnnormalSomething_4 ?_
  have Jt1 : ∀ (t1 : Bool), t1 = (
          if (gJ σ 17 o) ≤ 0 then
            false
          else
            if (gI σ 16 o) ≤ 0 then
              false
            else
              if 32767 ≤ (gI σ 16 o) then
                false
              else
                true) → WS p l e { frames := 0, cells := 0, slots := 0, locals := 0 } s m args below meth c Q E 1 31 [(0, .ref o)] [.int (bI t1)] (σ, τ, q) := by
    intro t1  e_t1
    have hf : f_Real_isUnnormalSomething σ o = t1 := by subst e_t1; exact rfl
    exact wi_zret hC hr hk d_Real_isUnnormalSomething_31 rfl (congrArg (fun z => some (Value.int (bI z))) hf) rfl hQ
  refine wi_lcmp_le hC 30 d_Real_isUnnormalSomething_5 d_Real_isUnnormalSomething_6 (by decide) (fun h1 => ?_) (fun h1 => ?_)
  · skip
    refine wi_iconst hC 0 (by decide) d_Real_isUnnormalSomething_30 ?_
    exact Jt1 false (by exact ((if_pos h1)).symm)
  · skip
    refine wi_aload_n hC 0 d_Real_isUnnormalSomething_9 rfl rfl ?_
    refine wg_Real_power hC ho wd_1 d_Real_isUnnormalSomething_10 ?_
    refine wi_if_le hC 30 d_Real_isUnnormalSomething_13 (by decide) (fun h2 => ?_) (fun h2 => ?_)
    · skip
      refine wi_iconst hC 0 (by decide) d_Real_isUnnormalSomething_30 ?_
      exact Jt1 false (by exact ((Eq.trans (if_neg h1) (if_pos h2))).symm)
    · skip
      refine wi_aload_n hC 0 d_Real_isUnnormalSomething_16 rfl rfl ?_
      refine wg_Real_power hC ho wd_1 d_Real_isUnnormalSomething_17 ?_
      refine wi_sipush hC 32767 (by decide) d_Real_isUnnormalSomething_20 ?_
      refine wi_icmp_ge hC 30 d_Real_isUnnormalSomething_23 (by decide) (fun h3 => ?_) (fun h3 => ?_)
      · skip
        refine wi_iconst hC 0 (by decide) d_Real_isUnnormalSomething_30 ?_
        exact Jt1 false (by exact ((Eq.trans (if_neg h1) (Eq.trans (if_neg h2) (if_pos h3)))).symm)
      · skip
        refine wi_iconst hC 1 (by decide) d_Real_isUnnormalSomething_26 ?_
        refine wi_goto hC 31 d_Real_isUnnormalSomething_27 (by decide) ?_
        exact Jt1 true (by exact ((Eq.trans (if_neg h1) (Eq.trans (if_neg h2) (if_neg h3)))).symm)
theorem k_Real_isUnnormalSomething {p : Program} {l : Launch} {e : Env} {R : Room} {s : State} {m : MethodId} {args : Array Value} {below : List Frame} {meth : Method} {c : Code} {Q : State → Prop} {E : Ev} {nL pc index : Nat} {lv : List (Nat × Value)} {rest : List Value} {cc : ByteArray} {own : String} {σ τ : St} {q : Int64} {o : Nat} (hC : Cx p s m args c cc nL own E)  (ho : isReal o) (hl : Cond.methodLink own index y_Real_isUnnormalSomething ∈ WL) (hR : 0 + 1 ≤ R.frames ∧ 8 + (1 + 11) + 0 ≤ R.locals) (hs8 : (rest.map fun v => v.category).sum ≤ 8) (d : decode cc pc = .ok (.invokevirtual index, 3)) (k : WS p l e R s m args below meth c Q E nL (pc + 3) lv ((.int (bI (f_Real_isUnnormalSomething σ o))) :: rest) (σ, τ, q)) : WS p l e R s m args below meth c Q E nL pc lv (.ref o :: rest) (σ, τ, q) := by
  exact wi_callV hC (n := 0) (vs := []) (rest := rest) o 5 (lt_Real ho) (wc_Real ho) rfl rfl (c_Real_isUnnormalSomething l E σ τ q o ho) (by decide +kernel) wd_65 wd_4 wd_66 wd_67 ⟨rfl, rfl⟩ rfl rfl hl hR hs8 d k
set_option maxRecDepth 100000 in
set_option maxHeartbeats 4000000 in
theorem c_Real_setInfinite (l : Launch) (E : Ev) (σ τ : St) (q : Int64) (o : Nat) (a1 : Bool) (ho : isReal o) : MF l y_Real_setInfinite prog_7_method_10_code 2 none { frames := 1, cells := 0, slots := 0, locals := 24 } E [.ref o, .int (bI a1)] (σ, τ, q) none ((f_Real_setInfinite σ o a1), τ, q) := by
  refine MF_intro (lv0 := [(0, .ref o), (1, .int (bI a1))]) (by decide) wd_68 (Nat.le_of_ble_eq_true rfl) rfl ?_
  intro p e s m args below meth c Q hC hr hk hQ
  replace hC : Cx p s m args c prog_7_method_10_code 2 "PartnerStack$Real" E := hC
  refine wi_aload_n hC 0 d_Real_setInfinite_0 rfl rfl ?_
  refine wi_iload_n hC 1 d_Real_setInfinite_1 rfl rfl ?_
  refine wi_sipush hC 32767 (by decide) d_Real_setInfinite_2 ?_
  refine wi_ldc2 hC wd_48 d_Real_setInfinite_5 ?_
  refine k_Real_set hC a1 rfl ho wd_28 (by decide) (Nat.le_of_ble_eq_true rfl) d_Real_setInfinite_8 ?_
  refine wi_nmC (fun s1 e_s1 => ?_)
  have hf : f_Real_setInfinite σ o a1 = s1 := by subst e_s1; exact rfl
  exact wi_vret hC hr hk d_Real_setInfinite_11 rfl (congrArg (fun z => (z, τ, q)) hf).symm hQ
theorem k_Real_setInfinite {p : Program} {l : Launch} {e : Env} {R : Room} {s : State} {m : MethodId} {args : Array Value} {below : List Frame} {meth : Method} {c : Code} {Q : State → Prop} {E : Ev} {nL pc index : Nat} {lv : List (Nat × Value)} {rest : List Value} {cc : ByteArray} {own : String} {σ τ : St} {q : Int64} {o : Nat} (hC : Cx p s m args c cc nL own E) {x_a1 : Int32} (a1 : Bool) (hx_a1 : x_a1 = bI a1) (ho : isReal o) (hl : Cond.methodLink own index y_Real_setInfinite ∈ WL) (hR : 1 + 1 ≤ R.frames ∧ 8 + (2 + 11) + 24 ≤ R.locals) (hs8 : (rest.map fun v => v.category).sum ≤ 8) (d : decode cc pc = .ok (.invokevirtual index, 3)) (k : WS p l e R s m args below meth c Q E nL (pc + 3) lv rest ((f_Real_setInfinite σ o a1), τ, q)) : WS p l e R s m args below meth c Q E nL pc lv (.int x_a1 :: .ref o :: rest) (σ, τ, q) := by
  subst hx_a1
  exact wi_callV hC (n := 1) (vs := [.int (bI a1)]) (rest := rest) o 5 (lt_Real ho) (wc_Real ho) rfl rfl (c_Real_setInfinite l E σ τ q o a1 ho) (by decide +kernel) wd_68 wd_4 wd_69 wd_70 ⟨rfl, rfl⟩ rfl rfl hl hR hs8 d k
set_option maxRecDepth 100000 in
set_option maxHeartbeats 4000000 in
theorem c_Ctl_rounding (l : Launch) (E : Ev) (σ τ : St) (q : Int64)   : MF l y_Ctl_rounding prog_2_method_7_code 1 (some .int) { frames := 0, cells := 0, slots := 0, locals := 0 } E [.ref 3] (σ, τ, q) (some (.int (f_Ctl_rounding σ))) (σ, τ, q) := by
  refine MF_intro (lv0 := [(0, .ref 3)]) (by decide) wd_71 (Nat.le_of_ble_eq_true rfl) rfl ?_
  intro p e s m args below meth c Q hC hr hk hQ
  replace hC : Cx p s m args c prog_2_method_7_code 1 "PartnerStack$Control" E := hC
  refine wi_aload_n hC 0 d_Ctl_rounding_0 rfl rfl ?_
  refine wg_Ctl_setting hC wd_35 d_Ctl_rounding_1 ?_
  refine wi_bipush hC 10 (by decide) d_Ctl_rounding_4 ?_
  refine wi_ishr hC d_Ctl_rounding_6 ?_
  refine wi_iconst hC 3 (by decide) d_Ctl_rounding_7 ?_
  refine wi_iand hC d_Ctl_rounding_8 ?_
  have hf : f_Ctl_rounding σ = (jshr (gI σ 6 3) 10) &&& 3 := by exact rfl
  exact wi_iret hC hr hk d_Ctl_rounding_9 (congrArg (fun z => some (Value.int z)) hf) rfl hQ
theorem k_Ctl_rounding {p : Program} {l : Launch} {e : Env} {R : Room} {s : State} {m : MethodId} {args : Array Value} {below : List Frame} {meth : Method} {c : Code} {Q : State → Prop} {E : Ev} {nL pc index : Nat} {lv : List (Nat × Value)} {rest : List Value} {cc : ByteArray} {own : String} {σ τ : St} {q : Int64}  (hC : Cx p s m args c cc nL own E)   (hl : Cond.methodLink own index y_Ctl_rounding ∈ WL) (hR : 0 + 1 ≤ R.frames ∧ 8 + (1 + 11) + 0 ≤ R.locals) (hs8 : (rest.map fun v => v.category).sum ≤ 8) (d : decode cc pc = .ok (.invokevirtual index, 3)) (k : WS p l e R s m args below meth c Q E nL (pc + 3) lv ((.int (f_Ctl_rounding σ)) :: rest) (σ, τ, q)) : WS p l e R s m args below meth c Q E nL pc lv (.ref 3 :: rest) (σ, τ, q) := by
  exact wi_callV hC (n := 0) (vs := []) (rest := rest) 3 2 (by decide) rfl rfl rfl (c_Ctl_rounding l E σ τ q  ) (by decide +kernel) wd_71 wd_24 wd_72 wd_73 ⟨rfl, rfl⟩ rfl rfl hl hR hs8 d k
set_option maxRecDepth 100000 in
set_option maxHeartbeats 4000000 in
theorem c_Ctl_digits (l : Launch) (E : Ev) (σ τ : St) (q : Int64)   : MF l y_Ctl_digits prog_2_method_6_code 2 (some .int) { frames := 0, cells := 0, slots := 0, locals := 0 } E [.ref 3] (σ, τ, q) (some (.int (f_Ctl_digits σ))) (σ, τ, q) := by
  refine MF_intro (lv0 := [(0, .ref 3)]) (by decide) wd_74 (Nat.le_of_ble_eq_true rfl) rfl ?_
  intro p e s m args below meth c Q hC hr hk hQ
  replace hC : Cx p s m args c prog_2_method_6_code 2 "PartnerStack$Control" E := hC
  refine wi_aload_n hC 0 d_Ctl_digits_0 rfl rfl ?_
  refine wg_Ctl_setting hC wd_35 d_Ctl_digits_1 ?_
  refine wi_bipush hC 8 (by decide) d_Ctl_digits_4 ?_
  refine wi_ishr hC d_Ctl_digits_6 ?_
  refine wi_iconst hC 3 (by decide) d_Ctl_digits_7 ?_
  refine wi_iand hC d_Ctl_digits_8 ?_
  refine wi_nmI (fun v1 e_v1 => ?_)
  refine wi_istore_n hC [(1, .int v1), (0, .ref 3)] d_Ctl_digits_9 rfl (by decide) rfl ?_
  refine wi_iload_n hC 0 d_Ctl_digits_10 rfl rfl ?_
  refine wi_if_ne hC 17 d_Ctl_digits_11 (by decide) (fun h1 => ?_) (fun h1 => ?_)
  · skip
    refine wi_iload_n hC 0 d_Ctl_digits_17 rfl rfl ?_
    refine wi_iconst hC 2 (by decide) d_Ctl_digits_18 ?_
    have Jt1 : ∀ (t1 : Int32), t1 = (
            if v1 = 2 then
              53
            else
              64) → WS p l e { frames := 0, cells := 0, slots := 0, locals := 0 } s m args below meth c Q E 2 29 [(1, .int v1), (0, .ref 3)] [.int t1] (σ, τ, q) := by
      intro t1  e_t1
      have hf : f_Ctl_digits σ = t1 := by subst e_t1; subst e_v1; exact (if_neg h1)
      exact wi_iret hC hr hk d_Ctl_digits_29 (congrArg (fun z => some (Value.int z)) hf) rfl hQ
    refine wi_icmp_ne hC 27 d_Ctl_digits_19 (by decide) (fun h2 => ?_) (fun h2 => ?_)
    · skip
      refine wi_bipush hC 64 (by decide) d_Ctl_digits_27 ?_
      exact Jt1 64 (by exact ((if_neg h2)).symm)
    · skip
      refine wi_bipush hC 53 (by decide) d_Ctl_digits_22 ?_
      refine wi_goto hC 29 d_Ctl_digits_24 (by decide) ?_
      exact Jt1 53 (by exact ((if_pos h2)).symm)
  · skip
    refine wi_bipush hC 24 (by decide) d_Ctl_digits_14 ?_
    have hf : f_Ctl_digits σ = 24 := by subst e_v1; exact (if_pos h1)
    exact wi_iret hC hr hk d_Ctl_digits_16 (congrArg (fun z => some (Value.int z)) hf) rfl hQ
theorem k_Ctl_digits {p : Program} {l : Launch} {e : Env} {R : Room} {s : State} {m : MethodId} {args : Array Value} {below : List Frame} {meth : Method} {c : Code} {Q : State → Prop} {E : Ev} {nL pc index : Nat} {lv : List (Nat × Value)} {rest : List Value} {cc : ByteArray} {own : String} {σ τ : St} {q : Int64}  (hC : Cx p s m args c cc nL own E)   (hl : Cond.methodLink own index y_Ctl_digits ∈ WL) (hR : 0 + 1 ≤ R.frames ∧ 8 + (2 + 11) + 0 ≤ R.locals) (hs8 : (rest.map fun v => v.category).sum ≤ 8) (d : decode cc pc = .ok (.invokevirtual index, 3)) (k : WS p l e R s m args below meth c Q E nL (pc + 3) lv ((.int (f_Ctl_digits σ)) :: rest) (σ, τ, q)) : WS p l e R s m args below meth c Q E nL pc lv (.ref 3 :: rest) (σ, τ, q) := by
  exact wi_callV hC (n := 0) (vs := []) (rest := rest) 3 2 (by decide) rfl rfl rfl (c_Ctl_digits l E σ τ q  ) (by decide +kernel) wd_74 wd_24 wd_75 wd_76 ⟨rfl, rfl⟩ rfl rfl hl hR hs8 d k
set_option maxRecDepth 100000 in
set_option maxHeartbeats 4000000 in
theorem c_Ctl_masks (l : Launch) (E : Ev) (σ τ : St) (q : Int64) (a1 : Int32)  : MF l y_Ctl_masks prog_2_method_3_code 2 (some .boolean) { frames := 0, cells := 0, slots := 0, locals := 0 } E [.ref 3, .int a1] (σ, τ, q) (some (.int (bI (f_Ctl_masks σ a1)))) (σ, τ, q) := by
  refine MF_intro (lv0 := [(0, .ref 3), (1, .int a1)]) (by decide) wd_77 (Nat.le_of_ble_eq_true rfl) rfl ?_
  intro p e s m args below meth c Q hC hr hk hQ
  replace hC : Cx p s m args c prog_2_method_3_code 2 "PartnerStack$Control" E := hC
  refine wi_aload_n hC 0 d_Ctl_masks_0 rfl rfl ?_
  refine wg_Ctl_setting hC wd_35 d_Ctl_masks_1 ?_
  refine wi_iload_n hC 1 d_Ctl_masks_4 rfl rfl ?_
  refine wi_iand hC d_Ctl_masks_5 ?_
  have Jt1 : ∀ (t1 : Bool), t1 = (
          if (gI σ 6 3) &&& a1 = 0 then
            false
          else
            true) → WS p l e { frames := 0, cells := 0, slots := 0, locals := 0 } s m args below meth c Q E 2 14 [(0, .ref 3), (1, .int a1)] [.int (bI t1)] (σ, τ, q) := by
    intro t1  e_t1
    have hf : f_Ctl_masks σ a1 = t1 := by subst e_t1; exact rfl
    exact wi_zret hC hr hk d_Ctl_masks_14 rfl (congrArg (fun z => some (Value.int (bI z))) hf) rfl hQ
  refine wi_if_eq hC 13 d_Ctl_masks_6 (by decide) (fun h1 => ?_) (fun h1 => ?_)
  · skip
    refine wi_iconst hC 0 (by decide) d_Ctl_masks_13 ?_
    exact Jt1 false (by exact ((if_pos h1)).symm)
  · skip
    refine wi_iconst hC 1 (by decide) d_Ctl_masks_9 ?_
    refine wi_goto hC 14 d_Ctl_masks_10 (by decide) ?_
    exact Jt1 true (by exact ((if_neg h1)).symm)
theorem k_Ctl_masks {p : Program} {l : Launch} {e : Env} {R : Room} {s : State} {m : MethodId} {args : Array Value} {below : List Frame} {meth : Method} {c : Code} {Q : State → Prop} {E : Ev} {nL pc index : Nat} {lv : List (Nat × Value)} {rest : List Value} {cc : ByteArray} {own : String} {σ τ : St} {q : Int64} {a1 : Int32} (hC : Cx p s m args c cc nL own E)   (hl : Cond.methodLink own index y_Ctl_masks ∈ WL) (hR : 0 + 1 ≤ R.frames ∧ 8 + (2 + 11) + 0 ≤ R.locals) (hs8 : (rest.map fun v => v.category).sum ≤ 8) (d : decode cc pc = .ok (.invokevirtual index, 3)) (k : WS p l e R s m args below meth c Q E nL (pc + 3) lv ((.int (bI (f_Ctl_masks σ a1))) :: rest) (σ, τ, q)) : WS p l e R s m args below meth c Q E nL pc lv (.int a1 :: .ref 3 :: rest) (σ, τ, q) := by
  exact wi_callV hC (n := 1) (vs := [.int a1]) (rest := rest) 3 2 (by decide) rfl rfl rfl (c_Ctl_masks l E σ τ q a1 ) (by decide +kernel) wd_77 wd_24 wd_78 wd_79 ⟨rfl, rfl⟩ rfl rfl hl hR hs8 d k
set_option maxRecDepth 100000 in
set_option maxHeartbeats 4000000 in
theorem c_Ctl_overBecomesInfinite (l : Launch) (E : Ev) (σ τ : St) (q : Int64) (a1 : Bool)  : MF l y_Ctl_overBecomesInfinite prog_2_method_8_code 3 (some .boolean) { frames := 1, cells := 0, slots := 0, locals := 20 } E [.ref 3, .int (bI a1)] (σ, τ, q) (some (.int (bI (f_Ctl_overBecomesInfinite σ a1)))) (σ, τ, q) := by
  refine MF_intro (lv0 := [(0, .ref 3), (1, .int (bI a1))]) (by decide) wd_81 (Nat.le_of_ble_eq_true rfl) rfl ?_
  intro p e s m args below meth c Q hC hr hk hQ
  replace hC : Cx p s m args c prog_2_method_8_code 3 "PartnerStack$Control" E := hC
  refine wi_aload_n hC 0 d_Ctl_overBecomesInfinite_0 rfl rfl ?_
  refine k_Ctl_rounding hC  wd_80 (by decide) (Nat.le_of_ble_eq_true rfl) d_Ctl_overBecomesInfinite_1 ?_
  refine wi_nmI (fun v1 e_v1 => ?_)
  refine wi_istore_n hC [(2, .int v1), (0, .ref 3), (1, .int (bI a1))] d_Ctl_overBecomesInfinite_4 rfl (by decide) rfl ?_
  refine wi_iload_n hC 0 d_Ctl_overBecomesInfinite_5 rfl rfl ?_
  have Jt2 : ∀ (t2 : Bool), t2 = (
          if v1 = 0 then
            true
          else
            let t1 : Int32 := 
                if a1 = true then
                  1
                else
                  2
            if v1 = t1 then
              true
            else
              false) → WS p l e { frames := 1, cells := 0, slots := 0, locals := 20 } s m args below meth c Q E 3 27 [(2, .int v1), (0, .ref 3), (1, .int (bI a1))] [.int (bI t2)] (σ, τ, q) := by
    intro t2  e_t2
    have hf : f_Ctl_overBecomesInfinite σ a1 = t2 := by subst e_t2; subst e_v1; exact rfl
    exact wi_zret hC hr hk d_Ctl_overBecomesInfinite_27 rfl (congrArg (fun z => some (Value.int (bI z))) hf) rfl hQ
  refine wi_if_eq hC 22 d_Ctl_overBecomesInfinite_6 (by decide) (fun h1 => ?_) (fun h1 => ?_)
  · skip
    refine wi_iconst hC 1 (by decide) d_Ctl_overBecomesInfinite_22 ?_
    refine wi_goto hC 27 d_Ctl_overBecomesInfinite_23 (by decide) ?_
    exact Jt2 true (by exact ((if_pos h1)).symm)
  · skip
    refine wi_iload_n hC 0 d_Ctl_overBecomesInfinite_9 rfl rfl ?_
    refine wi_iload_n hC 2 d_Ctl_overBecomesInfinite_10 rfl rfl ?_
    have Jt1 : ∀ (t1 : Int32), t1 = (
            if a1 = true then
              1
            else
              2) → WS p l e { frames := 1, cells := 0, slots := 0, locals := 20 } s m args below meth c Q E 3 19 [(2, .int v1), (0, .ref 3), (1, .int (bI a1))] [.int t1, .int v1] (σ, τ, q) := by
      intro t1  e_t1
      refine wi_icmp_ne hC 26 d_Ctl_overBecomesInfinite_19 (by decide) (fun h3 => ?_) (fun h3 => ?_)
      · skip
        refine wi_iconst hC 0 (by decide) d_Ctl_overBecomesInfinite_26 ?_
        exact Jt2 false (by subst e_t1; exact ((Eq.trans (if_neg h1) (if_neg h3))).symm)
      · skip
        refine wi_iconst hC 1 (by decide) d_Ctl_overBecomesInfinite_22 ?_
        refine wi_goto hC 27 d_Ctl_overBecomesInfinite_23 (by decide) ?_
        exact Jt2 true (by subst e_t1; exact ((Eq.trans (if_neg h1) (if_pos h3))).symm)
    refine wi_z_eq (b := a1) hC 18 d_Ctl_overBecomesInfinite_11 (by decide) (fun h2 => ?_) (fun h2 => ?_)
    · skip
      refine wi_iconst hC 2 (by decide) d_Ctl_overBecomesInfinite_18 ?_
      exact Jt1 2 (by exact ((if_neg h2)).symm)
    · skip
      refine wi_iconst hC 1 (by decide) d_Ctl_overBecomesInfinite_14 ?_
      refine wi_goto hC 19 d_Ctl_overBecomesInfinite_15 (by decide) ?_
      exact Jt1 1 (by exact ((if_pos h2)).symm)
theorem k_Ctl_overBecomesInfinite {p : Program} {l : Launch} {e : Env} {R : Room} {s : State} {m : MethodId} {args : Array Value} {below : List Frame} {meth : Method} {c : Code} {Q : State → Prop} {E : Ev} {nL pc index : Nat} {lv : List (Nat × Value)} {rest : List Value} {cc : ByteArray} {own : String} {σ τ : St} {q : Int64}  (hC : Cx p s m args c cc nL own E) {x_a1 : Int32} (a1 : Bool) (hx_a1 : x_a1 = bI a1)  (hl : Cond.methodLink own index y_Ctl_overBecomesInfinite ∈ WL) (hR : 1 + 1 ≤ R.frames ∧ 8 + (3 + 11) + 20 ≤ R.locals) (hs8 : (rest.map fun v => v.category).sum ≤ 8) (d : decode cc pc = .ok (.invokevirtual index, 3)) (k : WS p l e R s m args below meth c Q E nL (pc + 3) lv ((.int (bI (f_Ctl_overBecomesInfinite σ a1))) :: rest) (σ, τ, q)) : WS p l e R s m args below meth c Q E nL pc lv (.int x_a1 :: .ref 3 :: rest) (σ, τ, q) := by
  subst hx_a1
  exact wi_callV hC (n := 1) (vs := [.int (bI a1)]) (rest := rest) 3 2 (by decide) rfl rfl rfl (c_Ctl_overBecomesInfinite l E σ τ q a1 ) (by decide +kernel) wd_81 wd_24 wd_82 wd_83 ⟨rfl, rfl⟩ rfl rfl hl hR hs8 d k
set_option maxRecDepth 100000 in
set_option maxHeartbeats 4000000 in
theorem c_Ctl_endsWriting (l : Launch) (E : Ev) (σ τ : St) (q : Int64)   : MF l y_Ctl_endsWriting prog_2_method_5_code 1 (some .boolean) { frames := 0, cells := 0, slots := 0, locals := 0 } E [.ref 3] (σ, τ, q) (some (.int (bI (f_Ctl_endsWriting σ)))) (σ, τ, q) := by
  refine MF_intro (lv0 := [(0, .ref 3)]) (by decide) wd_84 (Nat.le_of_ble_eq_true rfl) rfl ?_
  intro p e s m args below meth c Q hC hr hk hQ
  replace hC : Cx p s m args c prog_2_method_5_code 1 "PartnerStack$Control" E := hC
  refine wi_aload_n hC 0 d_Ctl_endsWriting_0 rfl rfl ?_
  refine wg_Ctl_told hC wd_22 d_Ctl_endsWriting_1 ?_
  refine wi_aload_n hC 0 d_Ctl_endsWriting_4 rfl rfl ?_
  refine wg_Ctl_setting hC wd_35 d_Ctl_endsWriting_5 ?_
  refine wi_iconst hC (-1) (by decide) d_Ctl_endsWriting_8 ?_
  refine wi_ixor hC d_Ctl_endsWriting_9 ?_
  refine wi_iand hC d_Ctl_endsWriting_10 ?_
  refine wi_bipush hC 31 (by decide) d_Ctl_endsWriting_11 ?_
  refine wi_iand hC d_Ctl_endsWriting_13 ?_
  have Jt1 : ∀ (t1 : Bool), t1 = (
          if ((gI σ 7 3) &&& ((gI σ 6 3) ^^^ (-1))) &&& 31 = 0 then
            false
          else
            true) → WS p l e { frames := 0, cells := 0, slots := 0, locals := 0 } s m args below meth c Q E 1 22 [(0, .ref 3)] [.int (bI t1)] (σ, τ, q) := by
    intro t1  e_t1
    have hf : f_Ctl_endsWriting σ = t1 := by subst e_t1; exact rfl
    exact wi_zret hC hr hk d_Ctl_endsWriting_22 rfl (congrArg (fun z => some (Value.int (bI z))) hf) rfl hQ
  refine wi_if_eq hC 21 d_Ctl_endsWriting_14 (by decide) (fun h1 => ?_) (fun h1 => ?_)
  · skip
    refine wi_iconst hC 0 (by decide) d_Ctl_endsWriting_21 ?_
    exact Jt1 false (by exact ((if_pos h1)).symm)
  · skip
    refine wi_iconst hC 1 (by decide) d_Ctl_endsWriting_17 ?_
    refine wi_goto hC 22 d_Ctl_endsWriting_18 (by decide) ?_
    exact Jt1 true (by exact ((if_neg h1)).symm)
theorem k_Ctl_endsWriting {p : Program} {l : Launch} {e : Env} {R : Room} {s : State} {m : MethodId} {args : Array Value} {below : List Frame} {meth : Method} {c : Code} {Q : State → Prop} {E : Ev} {nL pc index : Nat} {lv : List (Nat × Value)} {rest : List Value} {cc : ByteArray} {own : String} {σ τ : St} {q : Int64}  (hC : Cx p s m args c cc nL own E)   (hl : Cond.methodLink own index y_Ctl_endsWriting ∈ WL) (hR : 0 + 1 ≤ R.frames ∧ 8 + (1 + 11) + 0 ≤ R.locals) (hs8 : (rest.map fun v => v.category).sum ≤ 8) (d : decode cc pc = .ok (.invokevirtual index, 3)) (k : WS p l e R s m args below meth c Q E nL (pc + 3) lv ((.int (bI (f_Ctl_endsWriting σ))) :: rest) (σ, τ, q)) : WS p l e R s m args below meth c Q E nL pc lv (.ref 3 :: rest) (σ, τ, q) := by
  exact wi_callV hC (n := 0) (vs := []) (rest := rest) 3 2 (by decide) rfl rfl rfl (c_Ctl_endsWriting l E σ τ q  ) (by decide +kernel) wd_84 wd_24 wd_85 wd_86 ⟨rfl, rfl⟩ rfl rfl hl hR hs8 d k
