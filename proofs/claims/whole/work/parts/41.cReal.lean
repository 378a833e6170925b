set_option maxRecDepth 100000 in
set_option maxHeartbeats 400000 in
theorem c_Real_set (l : Launch) (E : Ev) (σ τ : St) (q : Int64) (o : Nat) (a1 : Bool) (a2 : Int32) (a3 : Int64) (ho : isReal o) : MF l y_Real_set prog_7_method_8_code 5 none { frames := 0, cells := 0, slots := 0, locals := 0 } E [.ref o, .int (bI a1), .int a2, .long a3] (σ, τ, q) none ((f_Real_set σ o a1 a2 a3), τ, q) := by
  refine MF_intro (lv0 := [(0, .ref o), (1, .int (bI a1)), (2, .int a2), (3, .long a3)]) (by decide) wd_11 (Nat.le_of_ble_eq_true rfl) rfl ?_
  intro p e s m args below meth c Q hC hr hk hQ
  replace hC : Cx p s m args c prog_7_method_8_code 5 "PartnerStack$Real" E := hC
  refine wi_aload_n hC 0 d_Real_set_0 rfl rfl ?_
  refine wi_iload_n hC 1 d_Real_set_1 rfl rfl ?_
  refine wp_Real_minus hC ho a1 rfl wd_8 d_Real_set_2 ?_
  refine wi_nmC (fun s1 e_s1 => ?_)
  refine wi_aload_n hC 0 d_Real_set_5 rfl rfl ?_
  refine wi_iload_n hC 2 d_Real_set_6 rfl rfl ?_
  refine wp_Real_power hC ho wd_9 d_Real_set_7 ?_
  refine wi_nmC (fun s2 e_s2 => ?_)
  refine wi_aload_n hC 0 d_Real_set_10 rfl rfl ?_
  refine wi_lload_n hC 3 d_Real_set_11 rfl rfl ?_
  refine wp_Real_fraction hC ho wd_10 d_Real_set_12 ?_
  refine wi_nmC (fun s3 e_s3 => ?_)
  have hf : f_Real_set σ o a1 a2 a3 = s3 := by subst e_s3; subst e_s2; subst e_s1; exact rfl
  exact wi_vret hC hr hk d_Real_set_15 rfl (congrArg (fun z => (z, τ, q)) hf).symm hQ
theorem k_Real_set {p : Program} {l : Launch} {e : Env} {R : Room} {s : State} {m : MethodId} {args : Array Value} {below : List Frame} {meth : Method} {c : Code} {Q : State → Prop} {E : Ev} {nL pc index : Nat} {lv : List (Nat × Value)} {rest : List Value} {cc : ByteArray} {own : String} {σ τ : St} {q : Int64} {o : Nat} {a2 : Int32} {a3 : Int64} (hC : Cx p s m args c cc nL own E) {x_a1 : Int32} (a1 : Bool) (hx_a1 : x_a1 = bI a1) (ho : isReal o) (hl : Cond.methodLink own index y_Real_set ∈ WL) (hR : 0 + 1 ≤ R.frames ∧ 8 + (5 + 11) + 0 ≤ R.locals) (hs8 : (rest.map fun v => v.category).sum ≤ 8) (d : decode cc pc = .ok (.invokevirtual index, 3)) (k : WS p l e R s m args below meth c Q E nL (pc + 3) lv rest ((f_Real_set σ o a1 a2 a3), τ, q)) : WS p l e R s m args below meth c Q E nL pc lv (.long a3 :: .int a2 :: .int x_a1 :: .ref o :: rest) (σ, τ, q) := by
  subst hx_a1
  exact wi_callV hC (n := 3) (vs := [.int (bI a1), .int a2, .long a3]) (rest := rest) o 5 (lt_Real ho) (wc_Real ho) rfl rfl (c_Real_set l E σ τ q o a1 a2 a3 ho) (by decide +kernel) wd_11 wd_12 wd_13 wd_14 ⟨rfl, rfl⟩ rfl rfl hl hR hs8 d k
set_option maxRecDepth 100000 in
set_option maxHeartbeats 400000 in
theorem c_Real_isNothing (l : Launch) (E : Ev) (σ τ : St) (q : Int64) (o : Nat) (ho : isReal o) : MF l y_Real_isNothing prog_7_method_4_code 1 (some .boolean) { frames := 0, cells := 0, slots := 0, locals := 0 } E [.ref o] (σ, τ, q) (some (.int (bI (f_Real_isNothing σ o)))) (σ, τ, q) := by
  refine MF_intro (lv0 := [(0, .ref o)]) (by decide) wd_15 (Nat.le_of_ble_eq_true rfl) rfl ?_
  intro p e s m args below meth c Q hC hr hk hQ
  replace hC : Cx p s m args c prog_7_method_4_code 1 "PartnerStack$Real" E := hC
  refine wi_aload_n hC 0 d_Real_isNothing_0 rfl rfl ?_
  refine wg_Real_power hC ho wd_9 d_Real_isNothing_1 ?_
  refine wi_sipush hC 32767 (by decide) d_Real_isNothing_4 ?_
  obtain ⟨Tt1, eTt1⟩ : ∃ y : Bool, y = (
          if gI σ 16 o = 32767 then
            false
          else
            if gJ σ 17 o = 0 then
              true
            else
              false) := ⟨_, rfl⟩
  have Jt1 : ∀ (t1 : Bool), Tt1 = t1 → WS p l e { frames := 0, cells := 0, slots := 0, locals := 0 } s m args below meth c Q E 1 24 [(0, .ref o)] [.int (bI t1)] (σ, τ, q) := by
    intro t1  e_t1
    rw [eTt1] at e_t1
    have hf : f_Real_isNothing σ o = t1 := by subst e_t1; exact rfl
    exact wi_zret hC hr hk d_Real_isNothing_24 rfl (congrArg (fun z => some (Value.int (bI z))) hf) rfl hQ
  refine wi_icmp_eq hC 23 d_Real_isNothing_7 (by decide) (fun h1 => ?_) (fun h1 => ?_)
  · skip
    refine wi_iconst hC 0 (by decide) d_Real_isNothing_23 ?_
    exact Jt1 false (by exact (Eq.trans eTt1 (if_pos h1)))
  · skip
    refine wi_aload_n hC 0 d_Real_isNothing_10 rfl rfl ?_
    refine wg_Real_fraction hC ho wd_10 d_Real_isNothing_11 ?_
    refine wi_lconst hC 0 (by decide) d_Real_isNothing_14 ?_
    refine wi_lcmp_ne hC 23 d_Real_isNothing_15 d_Real_isNothing_16 (by decide) (fun h2 => ?_) (fun h2 => ?_)
    · skip
      refine wi_iconst hC 0 (by decide) d_Real_isNothing_23 ?_
      exact Jt1 false (by exact (Eq.trans eTt1 (Eq.trans (if_neg h1) (if_neg h2))))
    · skip
      refine wi_iconst hC 1 (by decide) d_Real_isNothing_19 ?_
      refine wi_goto hC 24 d_Real_isNothing_20 (by decide) ?_
      exact Jt1 true (by exact (Eq.trans eTt1 (Eq.trans (if_neg h1) (if_pos h2))))
theorem k_Real_isNothing {p : Program} {l : Launch} {e : Env} {R : Room} {s : State} {m : MethodId} {args : Array Value} {below : List Frame} {meth : Method} {c : Code} {Q : State → Prop} {E : Ev} {nL pc index : Nat} {lv : List (Nat × Value)} {rest : List Value} {cc : ByteArray} {own : String} {σ τ : St} {q : Int64} {o : Nat} (hC : Cx p s m args c cc nL own E)  (ho : isReal o) (hl : Cond.methodLink own index y_Real_isNothing ∈ WL) (hR : 0 + 1 ≤ R.frames ∧ 8 + (1 + 11) + 0 ≤ R.locals) (hs8 : (rest.map fun v => v.category).sum ≤ 8) (d : decode cc pc = .ok (.invokevirtual index, 3)) (k : WS p l e R s m args below meth c Q E nL (pc + 3) lv ((.int (bI (f_Real_isNothing σ o))) :: rest) (σ, τ, q)) : WS p l e R s m args below meth c Q E nL pc lv (.ref o :: rest) (σ, τ, q) := by
  exact wi_callV hC (n := 0) (vs := []) (rest := rest) o 5 (lt_Real ho) (wc_Real ho) rfl rfl (c_Real_isNothing l E σ τ q o ho) (by decide +kernel) wd_15 wd_12 wd_16 wd_17 ⟨rfl, rfl⟩ rfl rfl hl hR hs8 d k
set_option maxRecDepth 100000 in
set_option maxHeartbeats 400000 in
theorem c_Real_kind (l : Launch) (E : Ev) (σ τ : St) (q : Int64) (o : Nat) (ho : isReal o) : MF l y_Real_kind prog_7_method_2_code 1 (some .int) { frames := 0, cells := 0, slots := 0, locals := 0 } E [.ref o] (σ, τ, q) (some (.int (f_Real_kind σ o))) (σ, τ, q) := by
  refine MF_intro (lv0 := [(0, .ref o)]) (by decide) wd_18 (Nat.le_of_ble_eq_true rfl) rfl ?_
  intro p e s m args below meth c Q hC hr hk hQ
  replace hC : Cx p s m args c prog_7_method_2_code 1 "PartnerStack$Real" E := hC
  refine wi_aload_n hC 0 d_Real_kind_0 rfl rfl ?_
  refine wg_Real_power hC ho wd_9 d_Real_kind_1 ?_
  refine wi_sipush hC 32767 (by decide) d_Real_kind_4 ?_
  refine wi_icmp_ne hC 27 d_Real_kind_7 (by decide) (fun h1 => ?_) (fun h1 => ?_)
  · skip
    refine wi_aload_n hC 0 d_Real_kind_27 rfl rfl ?_
    refine wg_Real_power hC ho wd_9 d_Real_kind_28 ?_
    refine wi_if_ne hC 49 d_Real_kind_31 (by decide) (fun h2 => ?_) (fun h2 => ?_)
    · skip
      refine wi_aload_n hC 0 d_Real_kind_49 rfl rfl ?_
      refine wg_Real_fraction hC ho wd_10 d_Real_kind_50 ?_
      refine wi_lconst hC 0 (by decide) d_Real_kind_53 ?_
      obtain ⟨Tt1, eTt1⟩ : ∃ y : Int32, y = (
              if 0 ≤ (gJ σ 17 o) then
                2
              else
                3) := ⟨_, rfl⟩
      have Jt1 : ∀ (t1 : Int32), Tt1 = t1 → WS p l e { frames := 0, cells := 0, slots := 0, locals := 0 } s m args below meth c Q E 1 63 [(0, .ref o)] [.int t1] (σ, τ, q) := by
        intro t1  e_t1
        rw [eTt1] at e_t1
        have hf : f_Real_kind σ o = t1 := by subst e_t1; exact (Eq.trans (if_neg h1) (if_neg h2))
        exact wi_iret hC hr hk d_Real_kind_63 (congrArg (fun z => some (Value.int z)) hf) rfl hQ
      refine wi_lcmp_ge hC 62 d_Real_kind_54 d_Real_kind_55 (by decide) (fun h3 => ?_) (fun h3 => ?_)
      · skip
        refine wi_iconst hC 2 (by decide) d_Real_kind_62 ?_
        exact Jt1 2 (by exact (Eq.trans eTt1 (if_pos h3)))
      · skip
        refine wi_iconst hC 3 (by decide) d_Real_kind_58 ?_
        refine wi_goto hC 63 d_Real_kind_59 (by decide) ?_
        exact Jt1 3 (by exact (Eq.trans eTt1 (if_neg h3)))
    · skip
      refine wi_aload_n hC 0 d_Real_kind_34 rfl rfl ?_
      refine wg_Real_fraction hC ho wd_10 d_Real_kind_35 ?_
      refine wi_lconst hC 0 (by decide) d_Real_kind_38 ?_
      obtain ⟨Tt2, eTt2⟩ : ∃ y : Bool, y = (
              if gJ σ 17 o = 0 then
                false
              else
                true) := ⟨_, rfl⟩
      have Jt2 : ∀ (t2 : Bool), Tt2 = t2 → WS p l e { frames := 0, cells := 0, slots := 0, locals := 0 } s m args below meth c Q E 1 48 [(0, .ref o)] [.int (bI t2)] (σ, τ, q) := by
        intro t2  e_t2
        rw [eTt2] at e_t2
        have hf : f_Real_kind σ o = bI t2 := by subst e_t2; exact (Eq.trans (if_neg h1) (if_pos h2))
        exact wi_iret hC hr hk d_Real_kind_48 (congrArg (fun z => some (Value.int z)) hf) rfl hQ
      refine wi_lcmp_ne hC 47 d_Real_kind_39 d_Real_kind_40 (by decide) (fun h4 => ?_) (fun h4 => ?_)
      · skip
        refine wi_iconst hC 1 (by decide) d_Real_kind_47 ?_
        exact Jt2 true (by exact (Eq.trans eTt2 (if_neg h4)))
      · skip
        refine wi_iconst hC 0 (by decide) d_Real_kind_43 ?_
        refine wi_goto hC 48 d_Real_kind_44 (by decide) ?_
        exact Jt2 false (by exact (Eq.trans eTt2 (if_pos h4)))
  · skip
    refine wi_aload_n hC 0 d_Real_kind_10 rfl rfl ?_
    refine wg_Real_fraction hC ho wd_10 d_Real_kind_11 ?_
    refine wi_iconst hC 1 (by decide) d_Real_kind_14 ?_
    refine wi_lshl hC d_Real_kind_15 ?_
    refine wi_lconst hC 0 (by decide) d_Real_kind_16 ?_
    obtain ⟨Tt3, eTt3⟩ : ∃ y : Int32, y = (
            if jlshl (gJ σ 17 o) 1 = 0 then
              4
            else
              5) := ⟨_, rfl⟩
    have Jt3 : ∀ (t3 : Int32), Tt3 = t3 → WS p l e { frames := 0, cells := 0, slots := 0, locals := 0 } s m args below meth c Q E 1 26 [(0, .ref o)] [.int t3] (σ, τ, q) := by
      intro t3  e_t3
      rw [eTt3] at e_t3
      have hf : f_Real_kind σ o = t3 := by subst e_t3; exact (if_pos h1)
      exact wi_iret hC hr hk d_Real_kind_26 (congrArg (fun z => some (Value.int z)) hf) rfl hQ
    refine wi_lcmp_ne hC 25 d_Real_kind_17 d_Real_kind_18 (by decide) (fun h5 => ?_) (fun h5 => ?_)
    · skip
      refine wi_iconst hC 5 (by decide) d_Real_kind_25 ?_
      exact Jt3 5 (by exact (Eq.trans eTt3 (if_neg h5)))
    · skip
      refine wi_iconst hC 4 (by decide) d_Real_kind_21 ?_
      refine wi_goto hC 26 d_Real_kind_22 (by decide) ?_
      exact Jt3 4 (by exact (Eq.trans eTt3 (if_pos h5)))
theorem k_Real_kind {p : Program} {l : Launch} {e : Env} {R : Room} {s : State} {m : MethodId} {args : Array Value} {below : List Frame} {meth : Method} {c : Code} {Q : State → Prop} {E : Ev} {nL pc index : Nat} {lv : List (Nat × Value)} {rest : List Value} {cc : ByteArray} {own : String} {σ τ : St} {q : Int64} {o : Nat} (hC : Cx p s m args c cc nL own E)  (ho : isReal o) (hl : Cond.methodLink own index y_Real_kind ∈ WL) (hR : 0 + 1 ≤ R.frames ∧ 8 + (1 + 11) + 0 ≤ R.locals) (hs8 : (rest.map fun v => v.category).sum ≤ 8) (d : decode cc pc = .ok (.invokevirtual index, 3)) (k : WS p l e R s m args below meth c Q E nL (pc + 3) lv ((.int (f_Real_kind σ o)) :: rest) (σ, τ, q)) : WS p l e R s m args below meth c Q E nL pc lv (.ref o :: rest) (σ, τ, q) := by
  exact wi_callV hC (n := 0) (vs := []) (rest := rest) o 5 (lt_Real ho) (wc_Real ho) rfl rfl (c_Real_kind l E σ τ q o ho) (by decide +kernel) wd_18 wd_12 wd_19 wd_20 ⟨rfl, rfl⟩ rfl rfl hl hR hs8 d k
set_option maxRecDepth 100000 in
set_option maxHeartbeats 400000 in
theorem c_Real_tag (l : Launch) (E : Ev) (σ τ : St) (q : Int64) (o : Nat) (ho : isReal o) : MF l y_Real_tag prog_7_method_6_code 1 (some .int) { frames := 1, cells := 0, slots := 0, locals := 20 } E [.ref o] (σ, τ, q) (some (.int (f_Real_tag σ o))) (σ, τ, q) := by
  refine MF_intro (lv0 := [(0, .ref o)]) (by decide) wd_23 (Nat.le_of_ble_eq_true rfl) rfl ?_
  intro p e s m args below meth c Q hC hr hk hQ
  replace hC : Cx p s m args c prog_7_method_6_code 1 "PartnerStack$Real" E := hC
  refine wi_aload_n hC 0 d_Real_tag_0 rfl rfl ?_
  refine k_Real_isNothing hC ho wd_21 (by decide) (Nat.le_of_ble_eq_true rfl) d_Real_tag_1 ?_
  refine wi_z_eq (b := (f_Real_isNothing σ o)) hC 9 d_Real_tag_4 (by decide) (fun h1 => ?_) (fun h1 => ?_)
  · skip
    refine wi_aload_n hC 0 d_Real_tag_9 rfl rfl ?_
    refine k_Real_kind hC ho wd_22 (by decide) (Nat.le_of_ble_eq_true rfl) d_Real_tag_10 ?_
    refine wi_iconst hC 3 (by decide) d_Real_tag_13 ?_
    obtain ⟨Tt1, eTt1⟩ : ∃ y : Int32, y = (
            if f_Real_kind σ o = 3 then
              0
            else
              2) := ⟨_, rfl⟩
    have Jt1 : ∀ (t1 : Int32), Tt1 = t1 → WS p l e { frames := 1, cells := 0, slots := 0, locals := 20 } s m args below meth c Q E 1 22 [(0, .ref o)] [.int t1] (σ, τ, q) := by
      intro t1  e_t1
      rw [eTt1] at e_t1
      have hf : f_Real_tag σ o = t1 := by subst e_t1; exact (if_neg h1)
      exact wi_iret hC hr hk d_Real_tag_22 (congrArg (fun z => some (Value.int z)) hf) rfl hQ
    refine wi_icmp_ne hC 21 d_Real_tag_14 (by decide) (fun h2 => ?_) (fun h2 => ?_)
    · skip
      refine wi_iconst hC 2 (by decide) d_Real_tag_21 ?_
      exact Jt1 2 (by exact (Eq.trans eTt1 (if_neg h2)))
    · skip
      refine wi_iconst hC 0 (by decide) d_Real_tag_17 ?_
      refine wi_goto hC 22 d_Real_tag_18 (by decide) ?_
      exact Jt1 0 (by exact (Eq.trans eTt1 (if_pos h2)))
  · skip
    refine wi_iconst hC 1 (by decide) d_Real_tag_7 ?_
    have hf : f_Real_tag σ o = 1 := by exact (if_pos h1)
    exact wi_iret hC hr hk d_Real_tag_8 (congrArg (fun z => some (Value.int z)) hf) rfl hQ
theorem k_Real_tag {p : Program} {l : Launch} {e : Env} {R : Room} {s : State} {m : MethodId} {args : Array Value} {below : List Frame} {meth : Method} {c : Code} {Q : State → Prop} {E : Ev} {nL pc index : Nat} {lv : List (Nat × Value)} {rest : List Value} {cc : ByteArray} {own : String} {σ τ : St} {q : Int64} {o : Nat} (hC : Cx p s m args c cc nL own E)  (ho : isReal o) (hl : Cond.methodLink own index y_Real_tag ∈ WL) (hR : 1 + 1 ≤ R.frames ∧ 8 + (1 + 11) + 20 ≤ R.locals) (hs8 : (rest.map fun v => v.category).sum ≤ 8) (d : decode cc pc = .ok (.invokevirtual index, 3)) (k : WS p l e R s m args below meth c Q E nL (pc + 3) lv ((.int (f_Real_tag σ o)) :: rest) (σ, τ, q)) : WS p l e R s m args below meth c Q E nL pc lv (.ref o :: rest) (σ, τ, q) := by
  exact wi_callV hC (n := 0) (vs := []) (rest := rest) o 5 (lt_Real ho) (wc_Real ho) rfl rfl (c_Real_tag l E σ τ q o ho) (by decide +kernel) wd_23 wd_12 wd_24 wd_25 ⟨rfl, rfl⟩ rfl rfl hl hR hs8 d k
set_option maxRecDepth 100000 in
set_option maxHeartbeats 400000 in
theorem c_Real_top (l : Launch) (E : Ev) (σ τ : St) (q : Int64) (o : Nat) (ho : isReal o) : MF l y_Real_top prog_7_method_7_code 1 (some .int) { frames := 0, cells := 0, slots := 0, locals := 0 } E [.ref o] (σ, τ, q) (some (.int (f_Real_top σ o))) (σ, τ, q) := by
  refine MF_intro (lv0 := [(0, .ref o)]) (by decide) wd_27 (Nat.le_of_ble_eq_true rfl) rfl ?_
  intro p e s m args below meth c Q hC hr hk hQ
  replace hC : Cx p s m args c prog_7_method_7_code 1 "PartnerStack$Real" E := hC
  refine wi_aload_n hC 0 d_Real_top_0 rfl rfl ?_
  refine wg_Real_minus hC ho wd_8 d_Real_top_1 ?_
  obtain ⟨Tt1, eTt1⟩ : ∃ y : Int32, y = (
          if gZ σ 15 o = true then
            32768
          else
            0) := ⟨_, rfl⟩
  have Jt1 : ∀ (t1 : Int32), Tt1 = t1 → WS p l e { frames := 0, cells := 0, slots := 0, locals := 0 } s m args below meth c Q E 1 13 [(0, .ref o)] [.int t1] (σ, τ, q) := by
    intro t1  e_t1
    rw [eTt1] at e_t1
    refine wi_aload_n hC 0 d_Real_top_13 rfl rfl ?_
    refine wg_Real_power hC ho wd_9 d_Real_top_14 ?_
    refine wi_ior hC d_Real_top_17 ?_
    have hf : f_Real_top σ o = t1 ||| (gI σ 16 o) := by subst e_t1; exact rfl
    exact wi_iret hC hr hk d_Real_top_18 (congrArg (fun z => some (Value.int z)) hf) rfl hQ
  refine wi_z_eq (b := (gZ σ 15 o)) hC 12 d_Real_top_4 (by decide) (fun h1 => ?_) (fun h1 => ?_)
  · skip
    refine wi_iconst hC 0 (by decide) d_Real_top_12 ?_
    exact Jt1 0 (by exact (Eq.trans eTt1 (if_neg h1)))
  · skip
    refine wi_ldc hC wd_26 d_Real_top_7 ?_
    refine wi_goto hC 13 d_Real_top_9 (by decide) ?_
    exact Jt1 32768 (by exact (Eq.trans eTt1 (if_pos h1)))
theorem k_Real_top {p : Program} {l : Launch} {e : Env} {R : Room} {s : State} {m : MethodId} {args : Array Value} {below : List Frame} {meth : Method} {c : Code} {Q : State → Prop} {E : Ev} {nL pc index : Nat} {lv : List (Nat × Value)} {rest : List Value} {cc : ByteArray} {own : String} {σ τ : St} {q : Int64} {o : Nat} (hC : Cx p s m args c cc nL own E)  (ho : isReal o) (hl : Cond.methodLink own index y_Real_top ∈ WL) (hR : 0 + 1 ≤ R.frames ∧ 8 + (1 + 11) + 0 ≤ R.locals) (hs8 : (rest.map fun v => v.category).sum ≤ 8) (d : decode cc pc = .ok (.invokevirtual index, 3)) (k : WS p l e R s m args below meth c Q E nL (pc + 3) lv ((.int (f_Real_top σ o)) :: rest) (σ, τ, q)) : WS p l e R s m args below meth c Q E nL pc lv (.ref o :: rest) (σ, τ, q) := by
  exact wi_callV hC (n := 0) (vs := []) (rest := rest) o 5 (lt_Real ho) (wc_Real ho) rfl rfl (c_Real_top l E σ τ q o ho) (by decide +kernel) wd_27 wd_12 wd_28 wd_29 ⟨rfl, rfl⟩ rfl rfl hl hR hs8 d k
set_option maxRecDepth 100000 in
set_option maxHeartbeats 400000 in
theorem c_Real_setIndefinite (l : Launch) (E : Ev) (σ τ : St) (q : Int64) (o : Nat) (ho : isReal o) : MF l y_Real_setIndefinite prog_7_method_11_code 1 none { frames := 1, cells := 0, slots := 0, locals := 24 } E [.ref o] (σ, τ, q) none ((f_Real_setIndefinite σ o), τ, q) := by
  refine MF_intro (lv0 := [(0, .ref o)]) (by decide) wd_32 (Nat.le_of_ble_eq_true rfl) rfl ?_
  intro p e s m args below meth c Q hC hr hk hQ
  replace hC : Cx p s m args c prog_7_method_11_code 1 "PartnerStack$Real" E := hC
  refine wi_aload_n hC 0 d_Real_setIndefinite_0 rfl rfl ?_
  refine wi_iconst hC 1 (by decide) d_Real_setIndefinite_1 ?_
  refine wi_sipush hC 32767 (by decide) d_Real_setIndefinite_2 ?_
  refine wi_ldc2 hC wd_30 d_Real_setIndefinite_5 ?_
  refine k_Real_set hC true rfl ho wd_31 (by decide) (Nat.le_of_ble_eq_true rfl) d_Real_setIndefinite_8 ?_
  refine wi_nmC (fun s1 e_s1 => ?_)
  have hf : f_Real_setIndefinite σ o = s1 := by subst e_s1; exact rfl
  exact wi_vret hC hr hk d_Real_setIndefinite_11 rfl (congrArg (fun z => (z, τ, q)) hf).symm hQ
theorem k_Real_setIndefinite {p : Program} {l : Launch} {e : Env} {R : Room} {s : State} {m : MethodId} {args : Array Value} {below : List Frame} {meth : Method} {c : Code} {Q : State → Prop} {E : Ev} {nL pc index : Nat} {lv : List (Nat × Value)} {rest : List Value} {cc : ByteArray} {own : String} {σ τ : St} {q : Int64} {o : Nat} (hC : Cx p s m args c cc nL own E)  (ho : isReal o) (hl : Cond.methodLink own index y_Real_setIndefinite ∈ WL) (hR : 1 + 1 ≤ R.frames ∧ 8 + (1 + 11) + 24 ≤ R.locals) (hs8 : (rest.map fun v => v.category).sum ≤ 8) (d : decode cc pc = .ok (.invokevirtual index, 3)) (k : WS p l e R s m args below meth c Q E nL (pc + 3) lv rest ((f_Real_setIndefinite σ o), τ, q)) : WS p l e R s m args below meth c Q E nL pc lv (.ref o :: rest) (σ, τ, q) := by
  exact wi_callV hC (n := 0) (vs := []) (rest := rest) o 5 (lt_Real ho) (wc_Real ho) rfl rfl (c_Real_setIndefinite l E σ τ q o ho) (by decide +kernel) wd_32 wd_12 wd_33 wd_34 ⟨rfl, rfl⟩ rfl rfl hl hR hs8 d k
set_option maxRecDepth 100000 in
set_option maxHeartbeats 400000 in
theorem c_Real_take (l : Launch) (E : Ev) (σ τ : St) (q : Int64) (o : Nat) (a1 : Nat) (ho : isReal o) (ha1 : isReal a1) : MF l y_Real_take prog_7_method_12_code 2 none { frames := 0, cells := 0, slots := 0, locals := 0 } E [.ref o, .ref a1] (σ, τ, q) none ((f_Real_take σ o a1), τ, q) := by
  refine MF_intro (lv0 := [(0, .ref o), (1, .ref a1)]) (by decide) wd_35 (Nat.le_of_ble_eq_true rfl) rfl ?_
  intro p e s m args below meth c Q hC hr hk hQ
  replace hC : Cx p s m args c prog_7_method_12_code 2 "PartnerStack$Real" E := hC
  refine wi_aload_n hC 0 d_Real_take_0 rfl rfl ?_
  refine wi_aload_n hC 1 d_Real_take_1 rfl rfl ?_
  refine wg_Real_minus hC ha1 wd_8 d_Real_take_2 ?_
  refine wp_Real_minus hC ho (gZ σ 15 a1) rfl wd_8 d_Real_take_5 ?_
  refine wi_nmC (fun s1 e_s1 => ?_)
  refine wi_aload_n hC 0 d_Real_take_8 rfl rfl ?_
  refine wi_aload_n hC 1 d_Real_take_9 rfl rfl ?_
  refine wg_Real_power hC ha1 wd_9 d_Real_take_10 ?_
  refine wp_Real_power hC ho wd_9 d_Real_take_13 ?_
  refine wi_nmC (fun s2 e_s2 => ?_)
  refine wi_aload_n hC 0 d_Real_take_16 rfl rfl ?_
  refine wi_aload_n hC 1 d_Real_take_17 rfl rfl ?_
  refine wg_Real_fraction hC ha1 wd_10 d_Real_take_18 ?_
  refine wp_Real_fraction hC ho wd_10 d_Real_take_21 ?_
  refine wi_nmC (fun s3 e_s3 => ?_)
  have hf : f_Real_take σ o a1 = s3 := by subst e_s3; subst e_s2; subst e_s1; exact rfl
  exact wi_vret hC hr hk d_Real_take_24 rfl (congrArg (fun z => (z, τ, q)) hf).symm hQ
theorem k_Real_take {p : Program} {l : Launch} {e : Env} {R : Room} {s : State} {m : MethodId} {args : Array Value} {below : List Frame} {meth : Method} {c : Code} {Q : State → Prop} {E : Ev} {nL pc index : Nat} {lv : List (Nat × Value)} {rest : List Value} {cc : ByteArray} {own : String} {σ τ : St} {q : Int64} {o : Nat} {a1 : Nat} (hC : Cx p s m args c cc nL own E)  (ho : isReal o) (ha1 : isReal a1) (hl : Cond.methodLink own index y_Real_take ∈ WL) (hR : 0 + 1 ≤ R.frames ∧ 8 + (2 + 11) + 0 ≤ R.locals) (hs8 : (rest.map fun v => v.category).sum ≤ 8) (d : decode cc pc = .ok (.invokevirtual index, 3)) (k : WS p l e R s m args below meth c Q E nL (pc + 3) lv rest ((f_Real_take σ o a1), τ, q)) : WS p l e R s m args below meth c Q E nL pc lv (.ref a1 :: .ref o :: rest) (σ, τ, q) := by
  exact wi_callV hC (n := 1) (vs := [.ref a1]) (rest := rest) o 5 (lt_Real ho) (wc_Real ho) rfl rfl (c_Real_take l E σ τ q o a1 ho ha1) (by decide +kernel) wd_35 wd_12 wd_36 wd_37 ⟨rfl, rfl⟩ rfl rfl hl hR hs8 d k
set_option maxRecDepth 100000 in
set_option maxHeartbeats 400000 in
theorem c_Real_setZero (l : Launch) (E : Ev) (σ τ : St) (q : Int64) (o : Nat) (a1 : Bool) (ho : isReal o) : MF l y_Real_setZero prog_7_method_9_code 2 none { frames := 1, cells := 0, slots := 0, locals := 24 } E [.ref o, .int (bI a1)] (σ, τ, q) none ((f_Real_setZero σ o a1), τ, q) := by
  refine MF_intro (lv0 := [(0, .ref o), (1, .int (bI a1))]) (by decide) wd_38 (Nat.le_of_ble_eq_true rfl) rfl ?_
  intro p e s m args below meth c Q hC hr hk hQ
  replace hC : Cx p s m args c prog_7_method_9_code 2 "PartnerStack$Real" E := hC
  refine wi_aload_n hC 0 d_Real_setZero_0 rfl rfl ?_
  refine wi_iload_n hC 1 d_Real_setZero_1 rfl rfl ?_
  refine wi_iconst hC 0 (by decide) d_Real_setZero_2 ?_
  refine wi_lconst hC 0 (by decide) d_Real_setZero_3 ?_
  refine k_Real_set hC a1 rfl ho wd_31 (by decide) (Nat.le_of_ble_eq_true rfl) d_Real_setZero_4 ?_
  refine wi_nmC (fun s1 e_s1 => ?_)
  have hf : f_Real_setZero σ o a1 = s1 := by subst e_s1; exact rfl
  exact wi_vret hC hr hk d_Real_setZero_7 rfl (congrArg (fun z => (z, τ, q)) hf).symm hQ
theorem k_Real_setZero {p : Program} {l : Launch} {e : Env} {R : Room} {s : State} {m : MethodId} {args : Array Value} {below : List Frame} {meth : Method} {c : Code} {Q : State → Prop} {E : Ev} {nL pc index : Nat} {lv : List (Nat × Value)} {rest : List Value} {cc : ByteArray} {own : String} {σ τ : St} {q : Int64} {o : Nat} (hC : Cx p s m args c cc nL own E) {x_a1 : Int32} (a1 : Bool) (hx_a1 : x_a1 = bI a1) (ho : isReal o) (hl : Cond.methodLink own index y_Real_setZero ∈ WL) (hR : 1 + 1 ≤ R.frames ∧ 8 + (2 + 11) + 24 ≤ R.locals) (hs8 : (rest.map fun v => v.category).sum ≤ 8) (d : decode cc pc = .ok (.invokevirtual index, 3)) (k : WS p l e R s m args below meth c Q E nL (pc + 3) lv rest ((f_Real_setZero σ o a1), τ, q)) : WS p l e R s m args below meth c Q E nL pc lv (.int x_a1 :: .ref o :: rest) (σ, τ, q) := by
  subst hx_a1
  exact wi_callV hC (n := 1) (vs := [.int (bI a1)]) (rest := rest) o 5 (lt_Real ho) (wc_Real ho) rfl rfl (c_Real_setZero l E σ τ q o a1 ho) (by decide +kernel) wd_38 wd_12 wd_39 wd_40 ⟨rfl, rfl⟩ rfl rfl hl hR hs8 d k
set_option maxRecDepth 100000 in
set_option maxHeartbeats 400000 in
theorem c_Real_isInfinite (l : Launch) (E : Ev) (σ τ : St) (q : Int64) (o : Nat) (ho : isReal o) : MF l y_Real_isInfinite prog_7_method_3_code 1 (some .boolean) { frames := 0, cells := 0, slots := 0, locals := 0 } E [.ref o] (σ, τ, q) (some (.int (bI (f_Real_isInfinite σ o)))) (σ, τ, q) := by
  refine MF_intro (lv0 := [(0, .ref o)]) (by decide) wd_41 (Nat.le_of_ble_eq_true rfl) rfl ?_
  intro p e s m args below meth c Q hC hr hk hQ
  replace hC : Cx p s m args c prog_7_method_3_code 1 "PartnerStack$Real" E := hC
  refine wi_aload_n hC 0 d_Real_isInfinite_0 rfl rfl ?_
  refine wg_Real_power hC ho wd_9 d_Real_isInfinite_1 ?_
  refine wi_sipush hC 32767 (by decide) d_Real_isInfinite_4 ?_
  obtain ⟨Tt1, eTt1⟩ : ∃ y : Bool, y = (
          if gI σ 16 o = 32767 then
            if jlshl (gJ σ 17 o) 1 = 0 then
              true
            else
              false
          else
            false) := ⟨_, rfl⟩
  have Jt1 : ∀ (t1 : Bool), Tt1 = t1 → WS p l e { frames := 0, cells := 0, slots := 0, locals := 0 } s m args below meth c Q E 1 26 [(0, .ref o)] [.int (bI t1)] (σ, τ, q) := by
    intro t1  e_t1
    rw [eTt1] at e_t1
    have hf : f_Real_isInfinite σ o = t1 := by subst e_t1; exact rfl
    exact wi_zret hC hr hk d_Real_isInfinite_26 rfl (congrArg (fun z => some (Value.int (bI z))) hf) rfl hQ
  refine wi_icmp_ne hC 25 d_Real_isInfinite_7 (by decide) (fun h1 => ?_) (fun h1 => ?_)
  · skip
    refine wi_iconst hC 0 (by decide) d_Real_isInfinite_25 ?_
    exact Jt1 false (by exact (Eq.trans eTt1 (if_neg h1)))
  · skip
    refine wi_aload_n hC 0 d_Real_isInfinite_10 rfl rfl ?_
    refine wg_Real_fraction hC ho wd_10 d_Real_isInfinite_11 ?_
    refine wi_iconst hC 1 (by decide) d_Real_isInfinite_14 ?_
    refine wi_lshl hC d_Real_isInfinite_15 ?_
    refine wi_lconst hC 0 (by decide) d_Real_isInfinite_16 ?_
    refine wi_lcmp_ne hC 25 d_Real_isInfinite_17 d_Real_isInfinite_18 (by decide) (fun h2 => ?_) (fun h2 => ?_)
    · skip
      refine wi_iconst hC 0 (by decide) d_Real_isInfinite_25 ?_
      exact Jt1 false (by exact (Eq.trans eTt1 (Eq.trans (if_pos h1) (if_neg h2))))
    · skip
      refine wi_iconst hC 1 (by decide) d_Real_isInfinite_21 ?_
      refine wi_goto hC 26 d_Real_isInfinite_22 (by decide) ?_
      exact Jt1 true (by exact (Eq.trans eTt1 (Eq.trans (if_pos h1) (if_pos h2))))
theorem k_Real_isInfinite {p : Program} {l : Launch} {e : Env} {R : Room} {s : State} {m : MethodId} {args : Array Value} {below : List Frame} {meth : Method} {c : Code} {Q : State → Prop} {E : Ev} {nL pc index : Nat} {lv : List (Nat × Value)} {rest : List Value} {cc : ByteArray} {own : String} {σ τ : St} {q : Int64} {o : Nat} (hC : Cx p s m args c cc nL own E)  (ho : isReal o) (hl : Cond.methodLink own index y_Real_isInfinite ∈ WL) (hR : 0 + 1 ≤ R.frames ∧ 8 + (1 + 11) + 0 ≤ R.locals) (hs8 : (rest.map fun v => v.category).sum ≤ 8) (d : decode cc pc = .ok (.invokevirtual index, 3)) (k : WS p l e R s m args below meth c Q E nL (pc + 3) lv ((.int (bI (f_Real_isInfinite σ o))) :: rest) (σ, τ, q)) : WS p l e R s m args below meth c Q E nL pc lv (.ref o :: rest) (σ, τ, q) := by
  exact wi_callV hC (n := 0) (vs := []) (rest := rest) o 5 (lt_Real ho) (wc_Real ho) rfl rfl (c_Real_isInfinite l E σ τ q o ho) (by decide +kernel) wd_41 wd_12 wd_42 wd_43 ⟨rfl, rfl⟩ rfl rfl hl hR hs8 d k
set_option maxRecDepth 100000 in
set_option maxHeartbeats 400000 in
theorem c_Real_goesBefore (l : Launch) (E : Ev) (σ τ : St) (q : Int64) (o : Nat) (a1 : Nat) (ho : isReal o) (ha1 : isReal a1) : MF l y_Real_goesBefore prog_7_method_14_code 2 (some .boolean) { frames := 0, cells := 0, slots := 0, locals := 0 } E [.ref o, .ref a1] (σ, τ, q) (some (.int (bI (f_Real_goesBefore σ o a1)))) (σ, τ, q) := by
  refine MF_intro (lv0 := [(0, .ref o), (1, .ref a1)]) (by decide) wd_45 (Nat.le_of_ble_eq_true rfl) rfl ?_
  intro p e s m args below meth c Q hC hr hk hQ
  replace hC : Cx p s m args c prog_7_method_14_code 2 "PartnerStack$Real" E := hC
  refine wi_aload_n hC 0 d_Real_goesBefore_0 rfl rfl ?_
  refine wg_Real_fraction hC ho wd_10 d_Real_goesBefore_1 ?_
  refine wi_aload_n hC 1 d_Real_goesBefore_4 rfl rfl ?_
  refine wg_Real_fraction hC ha1 wd_10 d_Real_goesBefore_5 ?_
  refine wi_lcmp_ne hC 32 d_Real_goesBefore_8 d_Real_goesBefore_9 (by decide) (fun h1 => ?_) (fun h1 => ?_)
  · skip
    refine wi_aload_n hC 0 d_Real_goesBefore_32 rfl rfl ?_
    refine wg_Real_fraction hC ho wd_10 d_Real_goesBefore_33 ?_
    refine wi_ldc2 hC wd_44 d_Real_goesBefore_36 ?_
    refine wi_lxor hC d_Real_goesBefore_39 ?_
    refine wi_aload_n hC 1 d_Real_goesBefore_40 rfl rfl ?_
    refine wg_Real_fraction hC ha1 wd_10 d_Real_goesBefore_41 ?_
    refine wi_ldc2 hC wd_44 d_Real_goesBefore_44 ?_
    refine wi_lxor hC d_Real_goesBefore_47 ?_
    obtain ⟨Tt1, eTt1⟩ : ∃ y : Bool, y = (
            if ((gJ σ 17 o) ^^^ (-9223372036854775808)) ≤ ((gJ σ 17 a1) ^^^ (-9223372036854775808)) then
              false
            else
              true) := ⟨_, rfl⟩
    have Jt1 : ∀ (t1 : Bool), Tt1 = t1 → WS p l e { frames := 0, cells := 0, slots := 0, locals := 0 } s m args below meth c Q E 2 57 [(0, .ref o), (1, .ref a1)] [.int (bI t1)] (σ, τ, q) := by
      intro t1  e_t1
      rw [eTt1] at e_t1
      have hf : f_Real_goesBefore σ o a1 = t1 := by subst e_t1; exact (if_neg h1)
      exact wi_zret hC hr hk d_Real_goesBefore_57 rfl (congrArg (fun z => some (Value.int (bI z))) hf) rfl hQ
    refine wi_lcmp_le hC 56 d_Real_goesBefore_48 d_Real_goesBefore_49 (by decide) (fun h2 => ?_) (fun h2 => ?_)
    · skip
      refine wi_iconst hC 0 (by decide) d_Real_goesBefore_56 ?_
      exact Jt1 false (by exact (Eq.trans eTt1 (if_pos h2)))
    · skip
      refine wi_iconst hC 1 (by decide) d_Real_goesBefore_52 ?_
      refine wi_goto hC 57 d_Real_goesBefore_53 (by decide) ?_
      exact Jt1 true (by exact (Eq.trans eTt1 (if_neg h2)))
  · skip
    refine wi_aload_n hC 0 d_Real_goesBefore_12 rfl rfl ?_
    refine wg_Real_minus hC ho wd_8 d_Real_goesBefore_13 ?_
    obtain ⟨Tt2, eTt2⟩ : ∃ y : Bool, y = (
            if gZ σ 15 o = true then
              false
            else
              if gZ σ 15 a1 = true then
                true
              else
                false) := ⟨_, rfl⟩
    have Jt2 : ∀ (t2 : Bool), Tt2 = t2 → WS p l e { frames := 0, cells := 0, slots := 0, locals := 0 } s m args below meth c Q E 2 31 [(0, .ref o), (1, .ref a1)] [.int (bI t2)] (σ, τ, q) := by
      intro t2  e_t2
      rw [eTt2] at e_t2
      have hf : f_Real_goesBefore σ o a1 = t2 := by subst e_t2; exact (if_pos h1)
      exact wi_zret hC hr hk d_Real_goesBefore_31 rfl (congrArg (fun z => some (Value.int (bI z))) hf) rfl hQ
    refine wi_z_ne (b := (gZ σ 15 o)) hC 30 d_Real_goesBefore_16 (by decide) (fun h3 => ?_) (fun h3 => ?_)
    · skip
      refine wi_iconst hC 0 (by decide) d_Real_goesBefore_30 ?_
      exact Jt2 false (by exact (Eq.trans eTt2 (if_pos h3)))
    · skip
      refine wi_aload_n hC 1 d_Real_goesBefore_19 rfl rfl ?_
      refine wg_Real_minus hC ha1 wd_8 d_Real_goesBefore_20 ?_
      refine wi_z_eq (b := (gZ σ 15 a1)) hC 30 d_Real_goesBefore_23 (by decide) (fun h4 => ?_) (fun h4 => ?_)
      · skip
        refine wi_iconst hC 0 (by decide) d_Real_goesBefore_30 ?_
        exact Jt2 false (by exact (Eq.trans eTt2 (Eq.trans (if_neg h3) (if_neg h4))))
      · skip
        refine wi_iconst hC 1 (by decide) d_Real_goesBefore_26 ?_
        refine wi_goto hC 31 d_Real_goesBefore_27 (by decide) ?_
        exact Jt2 true (by exact (Eq.trans eTt2 (Eq.trans (if_neg h3) (if_pos h4))))
theorem k_Real_goesBefore {p : Program} {l : Launch} {e : Env} {R : Room} {s : State} {m : MethodId} {args : Array Value} {below : List Frame} {meth : Method} {c : Code} {Q : State → Prop} {E : Ev} {nL pc index : Nat} {lv : List (Nat × Value)} {rest : List Value} {cc : ByteArray} {own : String} {σ τ : St} {q : Int64} {o : Nat} {a1 : Nat} (hC : Cx p s m args c cc nL own E)  (ho : isReal o) (ha1 : isReal a1) (hl : Cond.methodLink own index y_Real_goesBefore ∈ WL) (hR : 0 + 1 ≤ R.frames ∧ 8 + (2 + 11) + 0 ≤ R.locals) (hs8 : (rest.map fun v => v.category).sum ≤ 8) (d : decode cc pc = .ok (.invokevirtual index, 3)) (k : WS p l e R s m args below meth c Q E nL (pc + 3) lv ((.int (bI (f_Real_goesBefore σ o a1))) :: rest) (σ, τ, q)) : WS p l e R s m args below meth c Q E nL pc lv (.ref a1 :: .ref o :: rest) (σ, τ, q) := by
  exact wi_callV hC (n := 1) (vs := [.ref a1]) (rest := rest) o 5 (lt_Real ho) (wc_Real ho) rfl rfl (c_Real_goesBefore l E σ τ q o a1 ho ha1) (by decide +kernel) wd_45 wd_12 wd_46 wd_47 ⟨rfl, rfl⟩ rfl rfl hl hR hs8 d k
set_option maxRecDepth 100000 in
set_option maxHeartbeats 400000 in
theorem c_Real_takeNoNumber (l : Launch) (E : Ev) (σ τ : St) (q : Int64) (o : Nat) (a1 : Nat) (a2 : Nat) (ho : isReal o) (ha1 : isReal a1) (ha2 : isReal a2) : MF l y_Real_takeNoNumber prog_7_method_13_code 5 (some .boolean) { frames := 1, cells := 0, slots := 0, locals := 21 } E [.ref o, .ref a1, .ref a2] (σ, τ, q) (some (.int (bI ((f_Real_takeNoNumber σ o a1 a2).1)))) ((f_Real_takeNoNumber σ o a1 a2).2, τ, q) := by
  refine MF_intro (lv0 := [(0, .ref o), (1, .ref a1), (2, .ref a2)]) (by decide) wd_50 (Nat.le_of_ble_eq_true rfl) rfl ?_
  intro p e s m args below meth c Q hC hr hk hQ
  replace hC : Cx p s m args c prog_7_method_13_code 5 "PartnerStack$Real" E := hC
  refine wi_aload_n hC 1 d_Real_takeNoNumber_0 rfl rfl ?_
  refine k_Real_kind hC ha1 wd_22 (by decide) (Nat.le_of_ble_eq_true rfl) d_Real_takeNoNumber_1 ?_
  refine wi_iconst hC 5 (by decide) d_Real_takeNoNumber_4 ?_
  obtain ⟨Tt1, eTt1⟩ : ∃ y : Bool, y = (
          if f_Real_kind σ a1 = 5 then
            true
          else
            false) := ⟨_, rfl⟩
  have Jt1 : ∀ (t1 : Bool), Tt1 = t1 → WS p l e { frames := 1, cells := 0, slots := 0, locals := 21 } s m args below meth c Q E 5 13 [(0, .ref o), (1, .ref a1), (2, .ref a2)] [.int (bI t1)] (σ, τ, q) := by
    intro t1  e_t1
    rw [eTt1] at e_t1
    refine wi_istore_n hC [(3, .int (bI t1)), (0, .ref o), (1, .ref a1), (2, .ref a2)] d_Real_takeNoNumber_13 rfl (by decide) rfl ?_
    refine wi_aload_n hC 3 d_Real_takeNoNumber_14 rfl rfl ?_
    refine k_Real_kind hC ha2 wd_22 (by decide) (Nat.le_of_ble_eq_true rfl) d_Real_takeNoNumber_15 ?_
    refine wi_iconst hC 5 (by decide) d_Real_takeNoNumber_18 ?_
    obtain ⟨Tt2, eTt2⟩ : ∃ y : Bool, y = (
            if f_Real_kind σ a2 = 5 then
              true
            else
              false) := ⟨_, rfl⟩
    have Jt2 : ∀ (t2 : Bool), Tt2 = t2 → WS p l e { frames := 1, cells := 0, slots := 0, locals := 21 } s m args below meth c Q E 5 27 [(3, .int (bI t1)), (0, .ref o), (1, .ref a1), (2, .ref a2)] [.int (bI t2)] (σ, τ, q) := by
      intro t2  e_t2
      rw [eTt2] at e_t2
      refine wi_istore hC [(4, .int (bI t2)), (3, .int (bI t1)), (0, .ref o), (1, .ref a1), (2, .ref a2)] d_Real_takeNoNumber_27 (by decide) rfl ?_
      refine wi_iload_n hC 1 d_Real_takeNoNumber_29 rfl rfl ?_
      have B1 : f_Real_takeNoNumber σ o a1 a2 = f_Real_takeNoNumber_b40 σ o a1 a2 t1 t2 → WS p l e { frames := 1, cells := 0, slots := 0, locals := 21 } s m args below meth c Q E 5 40 [(4, .int (bI t2)), (3, .int (bI t1)), (0, .ref o), (1, .ref a1), (2, .ref a2)] [] (σ, τ, q) := by
        intro hB1
        refine wi_aload_n hC 2 d_Real_takeNoNumber_40 rfl rfl ?_
        refine wi_iload_n hC 1 d_Real_takeNoNumber_41 rfl rfl ?_
        obtain ⟨Tt3, eTt3⟩ : ∃ y : Nat, y = (
                if t1 = true then
                  if t2 = true then
                    if f_Real_goesBefore σ a2 a1 = true then
                      a2
                    else
                      a1
                  else
                    a1
                else
                  a2) := ⟨_, rfl⟩
        have Jt3 : ∀ (t3 : Nat) (_ : isReal t3), Tt3 = t3 → WS p l e { frames := 1, cells := 0, slots := 0, locals := 21 } s m args below meth c Q E 5 63 [(4, .int (bI t2)), (3, .int (bI t1)), (0, .ref o), (1, .ref a1), (2, .ref a2)] [.ref t3, .ref o] (σ, τ, q) := by
          intro t3 hr_t3_0 e_t3
          rw [eTt3] at e_t3
          refine k_Real_take hC ho hr_t3_0 wd_49 (by decide) (Nat.le_of_ble_eq_true rfl) d_Real_takeNoNumber_63 ?_
          refine wi_nmC (fun s1 e_s1 => ?_)
          refine wi_iconst hC 1 (by decide) d_Real_takeNoNumber_66 ?_
          have hf : f_Real_takeNoNumber σ o a1 a2 = (true, s1) := by subst e_s1; subst e_t3; exact hB1
          exact wi_zret hC hr hk d_Real_takeNoNumber_67 rfl (congrArg (fun z => some (Value.int (bI z.1))) hf) (congrArg (fun z => (z.2, τ, q)) hf).symm hQ
        refine wi_z_eq (b := t1) hC 62 d_Real_takeNoNumber_42 (by decide) (fun h5 => ?_) (fun h5 => ?_)
        · skip
          refine wi_aload_n hC 4 d_Real_takeNoNumber_62 rfl rfl ?_
          exact Jt3 a2 ha2 (by exact (Eq.trans eTt3 (if_neg h5)))
        · skip
          refine wi_iload hC 0 d_Real_takeNoNumber_45 rfl ?_
          refine wi_z_eq (b := t2) hC 58 d_Real_takeNoNumber_47 (by decide) (fun h6 => ?_) (fun h6 => ?_)
          · skip
            refine wi_aload_n hC 3 d_Real_takeNoNumber_58 rfl rfl ?_
            refine wi_goto hC 63 d_Real_takeNoNumber_59 (by decide) ?_
            exact Jt3 a1 ha1 (by exact (Eq.trans eTt3 (Eq.trans (if_pos h5) (if_neg h6))))
          · skip
            refine wi_aload_n hC 4 d_Real_takeNoNumber_50 rfl rfl ?_
            refine wi_aload_n hC 3 d_Real_takeNoNumber_51 rfl rfl ?_
            refine k_Real_goesBefore hC ha2 ha1 wd_48 (by decide) (Nat.le_of_ble_eq_true rfl) d_Real_takeNoNumber_52 ?_
            refine wi_z_ne (b := (f_Real_goesBefore σ a2 a1)) hC 62 d_Real_takeNoNumber_55 (by decide) (fun h7 => ?_) (fun h7 => ?_)
            · skip
              refine wi_aload_n hC 4 d_Real_takeNoNumber_62 rfl rfl ?_
              exact Jt3 a2 ha2 (by exact (Eq.trans eTt3 (Eq.trans (if_pos h5) (Eq.trans (if_pos h6) (if_pos h7)))))
            · skip
              refine wi_aload_n hC 3 d_Real_takeNoNumber_58 rfl rfl ?_
              refine wi_goto hC 63 d_Real_takeNoNumber_59 (by decide) ?_
              exact Jt3 a1 ha1 (by exact (Eq.trans eTt3 (Eq.trans (if_pos h5) (Eq.trans (if_pos h6) (if_neg h7)))))
      refine wi_z_ne (b := t1) hC 40 d_Real_takeNoNumber_30 (by decide) (fun h3 => ?_) (fun h3 => ?_)
      · skip
        exact B1   (by subst e_t2; subst e_t1; exact (if_pos h3))
      · skip
        refine wi_iload hC 0 d_Real_takeNoNumber_33 rfl ?_
        refine wi_z_ne (b := t2) hC 40 d_Real_takeNoNumber_35 (by decide) (fun h4 => ?_) (fun h4 => ?_)
        · skip
          exact B1   (by subst e_t2; subst e_t1; exact (Eq.trans (if_neg h3) (if_pos h4)))
        · skip
          refine wi_iconst hC 0 (by decide) d_Real_takeNoNumber_38 ?_
          have hf : f_Real_takeNoNumber σ o a1 a2 = (false, σ) := by subst e_t2; subst e_t1; exact (Eq.trans (if_neg h3) (if_neg h4))
          exact wi_zret hC hr hk d_Real_takeNoNumber_39 rfl (congrArg (fun z => some (Value.int (bI z.1))) hf) (congrArg (fun z => (z.2, τ, q)) hf).symm hQ
    refine wi_icmp_ne hC 26 d_Real_takeNoNumber_19 (by decide) (fun h2 => ?_) (fun h2 => ?_)
    · skip
      refine wi_iconst hC 0 (by decide) d_Real_takeNoNumber_26 ?_
      exact Jt2 false (by exact (Eq.trans eTt2 (if_neg h2)))
    · skip
      refine wi_iconst hC 1 (by decide) d_Real_takeNoNumber_22 ?_
      refine wi_goto hC 27 d_Real_takeNoNumber_23 (by decide) ?_
      exact Jt2 true (by exact (Eq.trans eTt2 (if_pos h2)))
  refine wi_icmp_ne hC 12 d_Real_takeNoNumber_5 (by decide) (fun h1 => ?_) (fun h1 => ?_)
  · skip
    refine wi_iconst hC 0 (by decide) d_Real_takeNoNumber_12 ?_
    exact Jt1 false (by exact (Eq.trans eTt1 (if_neg h1)))
  · skip
    refine wi_iconst hC 1 (by decide) d_Real_takeNoNumber_8 ?_
    refine wi_goto hC 13 d_Real_takeNoNumber_9 (by decide) ?_
    exact Jt1 true (by exact (Eq.trans eTt1 (if_pos h1)))
theorem k_Real_takeNoNumber {p : Program} {l : Launch} {e : Env} {R : Room} {s : State} {m : MethodId} {args : Array Value} {below : List Frame} {meth : Method} {c : Code} {Q : State → Prop} {E : Ev} {nL pc index : Nat} {lv : List (Nat × Value)} {rest : List Value} {cc : ByteArray} {own : String} {σ τ : St} {q : Int64} {o : Nat} {a1 : Nat} {a2 : Nat} (hC : Cx p s m args c cc nL own E)  (ho : isReal o) (ha1 : isReal a1) (ha2 : isReal a2) (hl : Cond.methodLink own index y_Real_takeNoNumber ∈ WL) (hR : 1 + 1 ≤ R.frames ∧ 8 + (5 + 11) + 21 ≤ R.locals) (hs8 : (rest.map fun v => v.category).sum ≤ 8) (d : decode cc pc = .ok (.invokevirtual index, 3)) (k : WS p l e R s m args below meth c Q E nL (pc + 3) lv ((.int (bI ((f_Real_takeNoNumber σ o a1 a2).1))) :: rest) ((f_Real_takeNoNumber σ o a1 a2).2, τ, q)) : WS p l e R s m args below meth c Q E nL pc lv (.ref a2 :: .ref a1 :: .ref o :: rest) (σ, τ, q) := by
  exact wi_callV hC (n := 2) (vs := [.ref a1, .ref a2]) (rest := rest) o 5 (lt_Real ho) (wc_Real ho) rfl rfl (c_Real_takeNoNumber l E σ τ q o a1 a2 ho ha1 ha2) (by decide +kernel) wd_50 wd_12 wd_51 wd_52 ⟨rfl, rfl⟩ rfl rfl hl hR hs8 d k
set_option maxRecDepth 100000 in
set_option maxHeartbeats 400000 in
theorem c_Real_isUnnormalSomething (l : Launch) (E : Ev) (σ τ : St) (q : Int64) (o : Nat) (ho : isReal o) : MF l y_Real_isUnnormalSomething prog_7_method_5_code 1 (some .boolean) { frames := 0, cells := 0, slots := 0, locals := 0 } E [.ref o] (σ, τ, q) (some (.int (bI (f_Real_isUnnormalSomething σ o)))) (σ, τ, q) := by
  refine MF_intro (lv0 := [(0, .ref o)]) (by decide) wd_53 (Nat.le_of_ble_eq_true rfl) rfl ?_
  intro p e s m args below meth c Q hC hr hk hQ
  replace hC : Cx p s m args c prog_7_method_5_code 1 "PartnerStack$Real" E := hC
  refine wi_aload_n hC 0 d_Real_isUnnormalSomething_0 rfl rfl ?_
  refine wg_Real_fraction hC ho wd_10 d_Real_isUnnormalSomething_1 ?_
  refine wi_lconst hC 0 (by decide) d_Real_isUnnormalSomething_4 ?_
  obtain ⟨Tt1, eTt1⟩ : ∃ y : Bool, y = (
          if (gJ σ 17 o) ≤ 0 then
            false
          else
            if (gI σ 16 o) ≤ 0 then
              false
            else
              if 32767 ≤ (gI σ 16 o) then
                false
              else
                true) := ⟨_, rfl⟩
  have Jt1 : ∀ (t1 : Bool), Tt1 = t1 → WS p l e { frames := 0, cells := 0, slots := 0, locals := 0 } s m args below meth c Q E 1 31 [(0, .ref o)] [.int (bI t1)] (σ, τ, q) := by
    intro t1  e_t1
    rw [eTt1] at e_t1
    have hf : f_Real_isUnnormalSomething σ o = t1 := by subst e_t1; exact rfl
    exact wi_zret hC hr hk d_Real_isUnnormalSomething_31 rfl (congrArg (fun z => some (Value.int (bI z))) hf) rfl hQ
  refine wi_lcmp_le hC 30 d_Real_isUnnormalSomething_5 d_Real_isUnnormalSomething_6 (by decide) (fun h1 => ?_) (fun h1 => ?_)
  · skip
    refine wi_iconst hC 0 (by decide) d_Real_isUnnormalSomething_30 ?_
    exact Jt1 false (by exact (Eq.trans eTt1 (if_pos h1)))
  · skip
    refine wi_aload_n hC 0 d_Real_isUnnormalSomething_9 rfl rfl ?_
    refine wg_Real_power hC ho wd_9 d_Real_isUnnormalSomething_10 ?_
    refine wi_if_le hC 30 d_Real_isUnnormalSomething_13 (by decide) (fun h2 => ?_) (fun h2 => ?_)
    · skip
      refine wi_iconst hC 0 (by decide) d_Real_isUnnormalSomething_30 ?_
      exact Jt1 false (by exact (Eq.trans eTt1 (Eq.trans (if_neg h1) (if_pos h2))))
    · skip
      refine wi_aload_n hC 0 d_Real_isUnnormalSomething_16 rfl rfl ?_
      refine wg_Real_power hC ho wd_9 d_Real_isUnnormalSomething_17 ?_
      refine wi_sipush hC 32767 (by decide) d_Real_isUnnormalSomething_20 ?_
      refine wi_icmp_ge hC 30 d_Real_isUnnormalSomething_23 (by decide) (fun h3 => ?_) (fun h3 => ?_)
      · skip
        refine wi_iconst hC 0 (by decide) d_Real_isUnnormalSomething_30 ?_
        exact Jt1 false (by exact (Eq.trans eTt1 (Eq.trans (if_neg h1) (Eq.trans (if_neg h2) (if_pos h3)))))
      · skip
        refine wi_iconst hC 1 (by decide) d_Real_isUnnormalSomething_26 ?_
        refine wi_goto hC 31 d_Real_isUnnormalSomething_27 (by decide) ?_
        exact Jt1 true (by exact (Eq.trans eTt1 (Eq.trans (if_neg h1) (Eq.trans (if_neg h2) (if_neg h3)))))
theorem k_Real_isUnnormalSomething {p : Program} {l : Launch} {e : Env} {R : Room} {s : State} {m : MethodId} {args : Array Value} {below : List Frame} {meth : Method} {c : Code} {Q : State → Prop} {E : Ev} {nL pc index : Nat} {lv : List (Nat × Value)} {rest : List Value} {cc : ByteArray} {own : String} {σ τ : St} {q : Int64} {o : Nat} (hC : Cx p s m args c cc nL own E)  (ho : isReal o) (hl : Cond.methodLink own index y_Real_isUnnormalSomething ∈ WL) (hR : 0 + 1 ≤ R.frames ∧ 8 + (1 + 11) + 0 ≤ R.locals) (hs8 : (rest.map fun v => v.category).sum ≤ 8) (d : decode cc pc = .ok (.invokevirtual index, 3)) (k : WS p l e R s m args below meth c Q E nL (pc + 3) lv ((.int (bI (f_Real_isUnnormalSomething σ o))) :: rest) (σ, τ, q)) : WS p l e R s m args below meth c Q E nL pc lv (.ref o :: rest) (σ, τ, q) := by
  exact wi_callV hC (n := 0) (vs := []) (rest := rest) o 5 (lt_Real ho) (wc_Real ho) rfl rfl (c_Real_isUnnormalSomething l E σ τ q o ho) (by decide +kernel) wd_53 wd_12 wd_54 wd_55 ⟨rfl, rfl⟩ rfl rfl hl hR hs8 d k
set_option maxRecDepth 100000 in
set_option maxHeartbeats 400000 in
theorem c_Real_setInfinite (l : Launch) (E : Ev) (σ τ : St) (q : Int64) (o : Nat) (a1 : Bool) (ho : isReal o) : MF l y_Real_setInfinite prog_7_method_10_code 2 none { frames := 1, cells := 0, slots := 0, locals := 24 } E [.ref o, .int (bI a1)] (σ, τ, q) none ((f_Real_setInfinite σ o a1), τ, q) := by
  refine MF_intro (lv0 := [(0, .ref o), (1, .int (bI a1))]) (by decide) wd_56 (Nat.le_of_ble_eq_true rfl) rfl ?_
  intro p e s m args below meth c Q hC hr hk hQ
  replace hC : Cx p s m args c prog_7_method_10_code 2 "PartnerStack$Real" E := hC
  refine wi_aload_n hC 0 d_Real_setInfinite_0 rfl rfl ?_
  refine wi_iload_n hC 1 d_Real_setInfinite_1 rfl rfl ?_
  refine wi_sipush hC 32767 (by decide) d_Real_setInfinite_2 ?_
  refine wi_ldc2 hC wd_44 d_Real_setInfinite_5 ?_
  refine k_Real_set hC a1 rfl ho wd_31 (by decide) (Nat.le_of_ble_eq_true rfl) d_Real_setInfinite_8 ?_
  refine wi_nmC (fun s1 e_s1 => ?_)
  have hf : f_Real_setInfinite σ o a1 = s1 := by subst e_s1; exact rfl
  exact wi_vret hC hr hk d_Real_setInfinite_11 rfl (congrArg (fun z => (z, τ, q)) hf).symm hQ
theorem k_Real_setInfinite {p : Program} {l : Launch} {e : Env} {R : Room} {s : State} {m : MethodId} {args : Array Value} {below : List Frame} {meth : Method} {c : Code} {Q : State → Prop} {E : Ev} {nL pc index : Nat} {lv : List (Nat × Value)} {rest : List Value} {cc : ByteArray} {own : String} {σ τ : St} {q : Int64} {o : Nat} (hC : Cx p s m args c cc nL own E) {x_a1 : Int32} (a1 : Bool) (hx_a1 : x_a1 = bI a1) (ho : isReal o) (hl : Cond.methodLink own index y_Real_setInfinite ∈ WL) (hR : 1 + 1 ≤ R.frames ∧ 8 + (2 + 11) + 24 ≤ R.locals) (hs8 : (rest.map fun v => v.category).sum ≤ 8) (d : decode cc pc = .ok (.invokevirtual index, 3)) (k : WS p l e R s m args below meth c Q E nL (pc + 3) lv rest ((f_Real_setInfinite σ o a1), τ, q)) : WS p l e R s m args below meth c Q E nL pc lv (.int x_a1 :: .ref o :: rest) (σ, τ, q) := by
  subst hx_a1
  exact wi_callV hC (n := 1) (vs := [.int (bI a1)]) (rest := rest) o 5 (lt_Real ho) (wc_Real ho) rfl rfl (c_Real_setInfinite l E σ τ q o a1 ho) (by decide +kernel) wd_56 wd_12 wd_57 wd_58 ⟨rfl, rfl⟩ rfl rfl hl hR hs8 d k
