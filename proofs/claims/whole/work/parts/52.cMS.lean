set_option maxRecDepth 100000 in
set_option maxHeartbeats 400000 in
theorem c_MS_control (l : Launch) (E : Ev) (σ τ : St) (q : Int64) (a1 : Int32)  : MF l y_MS_control prog_15_method_6_code 2 none { frames := 0, cells := 0, slots := 0, locals := 0 } E [.ref 42, .int a1] (σ, τ, q) none (σ, (f_MS_control τ a1), q) := by
  refine MF_intro (lv0 := [(0, .ref 42), (1, .int a1)]) (by decide) wd_808 (Nat.le_of_ble_eq_true rfl) rfl ?_
  intro p e s m args below meth c Q hC hr hk hQ
  replace hC : Cx p s m args c prog_15_method_6_code 2 "PartnerStackModel$RealStepsModel" E := hC
  refine wi_aload_n hC 0 d_MS_control_0 rfl rfl ?_
  refine wi_iload_n hC 1 d_MS_control_1 rfl rfl ?_
  obtain ⟨Tt1, eTt1⟩ : ∃ y : Bool, y = (
          if a1 < 0 then
            true
          else
            if a1 ≤ 65535 then
              false
            else
              true) := ⟨_, rfl⟩
  have Jt1 : ∀ (t1 : Bool), Tt1 = t1 → WS p l e { frames := 0, cells := 0, slots := 0, locals := 0 } s m args below meth c Q E 2 16 [(0, .ref 42), (1, .int a1)] [.int (bI t1), .ref 42] (σ, τ, q) := by
    intro t1  e_t1
    rw [eTt1] at e_t1
    refine wp_MS_code hC wd_806 d_MS_control_16 ?_
    refine wi_nmM (fun s1 e_s1 => ?_)
    refine wi_aload_n hC 0 d_MS_control_19 rfl rfl ?_
    refine wg_MS_code hC wd_806 d_MS_control_20 ?_
    obtain ⟨Tt2, eTt2⟩ : ∃ y : St, y = (
            if gI s1 26 42 = 0 then
              let s2 : St := sI s1 27 42 a1
              s2
            else
              s1) := ⟨_, rfl⟩
    have Jt2 : ∀ (t2 : St), Tt2 = t2 → WS p l e { frames := 0, cells := 0, slots := 0, locals := 0 } s m args below meth c Q E 2 31 [(0, .ref 42), (1, .int a1)] [] (σ, t2, q) := by
      intro t2  e_t2
      rw [eTt2] at e_t2
      have hf : f_MS_control τ a1 = t2 := by subst e_t2; subst e_s1; subst e_t1; exact rfl
      exact wi_vret hC hr hk d_MS_control_31 rfl (congrArg (fun z => (σ, z, q)) hf).symm hQ
    refine wi_if_ne hC 31 d_MS_control_23 (by decide) (fun h3 => ?_) (fun h3 => ?_)
    · skip
      exact Jt2 s1 (by exact (Eq.trans eTt2 (if_neg h3)))
    · skip
      refine wi_aload_n hC 0 d_MS_control_26 rfl rfl ?_
      refine wi_iload_n hC 1 d_MS_control_27 rfl rfl ?_
      refine wp_MS_control hC wd_807 d_MS_control_28 ?_
      refine wi_nmM (fun s2 e_s2 => ?_)
      exact Jt2 s2 (by subst e_s2; exact (Eq.trans eTt2 (if_pos h3)))
  refine wi_if_lt hC 11 d_MS_control_2 (by decide) (fun h1 => ?_) (fun h1 => ?_)
  · skip
    refine wi_iconst hC 1 (by decide) d_MS_control_11 ?_
    refine wi_goto hC 16 d_MS_control_12 (by decide) ?_
    exact Jt1 true (by exact (Eq.trans eTt1 (if_pos h1)))
  · skip
    refine wi_iload_n hC 1 d_MS_control_5 rfl rfl ?_
    refine wi_ldc hC wd_805 d_MS_control_6 ?_
    refine wi_icmp_le hC 15 d_MS_control_8 (by decide) (fun h2 => ?_) (fun h2 => ?_)
    · skip
      refine wi_iconst hC 0 (by decide) d_MS_control_15 ?_
      exact Jt1 false (by exact (Eq.trans eTt1 (Eq.trans (if_neg h1) (if_pos h2))))
    · skip
      refine wi_iconst hC 1 (by decide) d_MS_control_11 ?_
      refine wi_goto hC 16 d_MS_control_12 (by decide) ?_
      exact Jt1 true (by exact (Eq.trans eTt1 (Eq.trans (if_neg h1) (if_neg h2))))
theorem k_MS_control {p : Program} {l : Launch} {e : Env} {R : Room} {s : State} {m : MethodId} {args : Array Value} {below : List Frame} {meth : Method} {c : Code} {Q : State → Prop} {E : Ev} {nL pc index : Nat} {lv : List (Nat × Value)} {rest : List Value} {cc : ByteArray} {own : String} {σ τ : St} {q : Int64} {a1 : Int32} (hC : Cx p s m args c cc nL own E)   (hl : Cond.methodLink own index y_MS_control ∈ WL) (hR : 0 + 1 ≤ R.frames ∧ 8 + (2 + 11) + 0 ≤ R.locals) (hs8 : (rest.map fun v => v.category).sum ≤ 8) (d : decode cc pc = .ok (.invokevirtual index, 3)) (k : WS p l e R s m args below meth c Q E nL (pc + 3) lv rest (σ, (f_MS_control τ a1), q)) : WS p l e R s m args below meth c Q E nL pc lv (.int a1 :: .ref 42 :: rest) (σ, τ, q) := by
  exact wi_callV hC (n := 1) (vs := [.int a1]) (rest := rest) 42 12 (by decide) rfl rfl rfl (c_MS_control l E σ τ q a1 ) (by decide +kernel) wd_808 wd_809 wd_810 wd_811 ⟨rfl, rfl⟩ rfl rfl hl hR hs8 d k
set_option maxRecDepth 100000 in
set_option maxHeartbeats 400000 in
theorem c_MS_none (l : Launch) (E : Ev) (σ τ : St) (q : Int64) (a1 : Int32)  : MF l y_MS_none prog_15_method_3_code 1 (some .boolean) { frames := 0, cells := 0, slots := 0, locals := 0 } E [.int a1] (σ, τ, q) (some (.int (bI (f_MS_none a1)))) (σ, τ, q) := by
  refine MF_intro (lv0 := [(0, .int a1)]) (by decide) wd_812 (Nat.le_of_ble_eq_true rfl) rfl ?_
  intro p e s m args below meth c Q hC hr hk hQ
  replace hC : Cx p s m args c prog_15_method_3_code 1 "PartnerStackModel$RealStepsModel" E := hC
  refine wi_iload_n hC 0 d_MS_none_0 rfl rfl ?_
  obtain ⟨Tt1, eTt1⟩ : ∃ y : Bool, y = (
          if a1 < 0 then
            true
          else
            if a1 ≤ 7 then
              false
            else
              true) := ⟨_, rfl⟩
  have Jt1 : ∀ (t1 : Bool), Tt1 = t1 → WS p l e { frames := 0, cells := 0, slots := 0, locals := 0 } s m args below meth c Q E 1 15 [(0, .int a1)] [.int (bI t1)] (σ, τ, q) := by
    intro t1  e_t1
    rw [eTt1] at e_t1
    have hf : f_MS_none a1 = t1 := by subst e_t1; exact rfl
    exact wi_zret hC hr hk d_MS_none_15 rfl (congrArg (fun z => some (Value.int (bI z))) hf) rfl hQ
  refine wi_if_lt hC 10 d_MS_none_1 (by decide) (fun h1 => ?_) (fun h1 => ?_)
  · skip
    refine wi_iconst hC 1 (by decide) d_MS_none_10 ?_
    refine wi_goto hC 15 d_MS_none_11 (by decide) ?_
    exact Jt1 true (by exact (Eq.trans eTt1 (if_pos h1)))
  · skip
    refine wi_iload_n hC 0 d_MS_none_4 rfl rfl ?_
    refine wi_bipush hC 7 (by decide) d_MS_none_5 ?_
    refine wi_icmp_le hC 14 d_MS_none_7 (by decide) (fun h2 => ?_) (fun h2 => ?_)
    · skip
      refine wi_iconst hC 0 (by decide) d_MS_none_14 ?_
      exact Jt1 false (by exact (Eq.trans eTt1 (Eq.trans (if_neg h1) (if_pos h2))))
    · skip
      refine wi_iconst hC 1 (by decide) d_MS_none_10 ?_
      refine wi_goto hC 15 d_MS_none_11 (by decide) ?_
      exact Jt1 true (by exact (Eq.trans eTt1 (Eq.trans (if_neg h1) (if_neg h2))))
theorem k_MS_none {p : Program} {l : Launch} {e : Env} {R : Room} {s : State} {m : MethodId} {args : Array Value} {below : List Frame} {meth : Method} {c : Code} {Q : State → Prop} {E : Ev} {nL pc index : Nat} {lv : List (Nat × Value)} {rest : List Value} {cc : ByteArray} {own : String} {σ τ : St} {q : Int64} {a1 : Int32} (hC : Cx p s m args c cc nL own E)   (hl : Cond.methodLink own index y_MS_none ∈ WL) (hR : 0 + 1 ≤ R.frames ∧ 8 + (1 + 11) + 0 ≤ R.locals) (hs8 : (rest.map fun v => v.category).sum ≤ 8) (d : decode cc pc = .ok (.invokestatic index, 3)) (k : WS p l e R s m args below meth c Q E nL (pc + 3) lv ((.int (bI (f_MS_none a1))) :: rest) (σ, τ, q)) : WS p l e R s m args below meth c Q E nL pc lv (.int a1 :: rest) (σ, τ, q) := by
  exact wi_callS hC (n := 1) (vs := [.int a1]) (rest := rest) (c_MS_none l E σ τ q a1 ) (by decide +kernel) wd_812 wd_809 wd_813 ⟨rfl, rfl⟩ rfl rfl hl hR hs8 d k
set_option maxRecDepth 100000 in
set_option maxHeartbeats 400000 in
theorem c_MS_set (l : Launch) (E : Ev) (σ τ : St) (q : Int64) (a1 : Int32) (a2 : Int32) (a3 : Int32) (a4 : Int32) (hp : vp_in a1 8) : MF l y_MS_set prog_15_method_7_code 5 none { frames := 1, cells := 0, slots := 0, locals := 20 } E [.ref 42, .int a1, .int a2, .int a3, .int a4] (σ, τ, q) none (σ, (f_MS_set τ a1 a2 a3 a4), q) := by
  refine MF_intro (lv0 := [(0, .ref 42), (1, .int a1), (2, .int a2), (3, .int a3), (4, .int a4)]) (by decide) wd_819 (Nat.le_of_ble_eq_true rfl) rfl ?_
  intro p e s m args below meth c Q hC hr hk hQ
  replace hC : Cx p s m args c prog_15_method_7_code 5 "PartnerStackModel$RealStepsModel" E := hC
  refine wi_aload_n hC 0 d_MS_set_0 rfl rfl ?_
  refine wi_iload_n hC 1 d_MS_set_1 rfl rfl ?_
  refine k_MS_none hC  wd_814 (by decide) (Nat.le_of_ble_eq_true rfl) d_MS_set_2 ?_
  obtain ⟨Tt1, eTt1⟩ : ∃ y : Int32, y = (
          if f_MS_none a1 = true then
            1
          else
            if a2 < 0 then
              2
            else
              if a2 ≤ 65535 then
                0
              else
                2) := ⟨_, rfl⟩
  have Jt1 : ∀ (t1 : Int32), Tt1 = t1 → WS p l e { frames := 1, cells := 0, slots := 0, locals := 20 } s m args below meth c Q E 5 27 [(0, .ref 42), (1, .int a1), (2, .int a2), (3, .int a3), (4, .int a4)] [.int t1, .ref 42] (σ, τ, q) := by
    intro t1  e_t1
    rw [eTt1] at e_t1
    refine wp_MS_code hC wd_806 d_MS_set_27 ?_
    refine wi_nmM (fun s1 e_s1 => ?_)
    refine wi_aload_n hC 0 d_MS_set_30 rfl rfl ?_
    refine wg_MS_code hC wd_806 d_MS_set_31 ?_
    refine wi_if_le hC 38 d_MS_set_34 (by decide) (fun h4 => ?_) (fun h4 => ?_)
    · skip
      refine wi_aload_n hC 0 d_MS_set_38 rfl rfl ?_
      refine wg_MS_top hC wd_815 d_MS_set_39 ?_
      refine wi_iload_n hC 1 d_MS_set_42 rfl rfl ?_
      refine wi_iload_n hC 2 d_MS_set_43 rfl rfl ?_
      refine wa_st43 hC hp d_MS_set_44 ?_
      refine wi_nmM (fun s2 e_s2 => ?_)
      refine wi_aload_n hC 0 d_MS_set_45 rfl rfl ?_
      refine wg_MS_fraction hC wd_816 d_MS_set_46 ?_
      refine wi_iload_n hC 1 d_MS_set_49 rfl rfl ?_
      refine wi_iload_n hC 3 d_MS_set_50 rfl rfl ?_
      refine wi_i2l hC d_MS_set_51 ?_
      refine wi_ldc2 hC wd_817 d_MS_set_52 ?_
      refine wi_lmul hC d_MS_set_55 ?_
      refine wi_iload hC 4 d_MS_set_56 rfl ?_
      refine wi_i2l hC d_MS_set_58 ?_
      refine wi_ldc2 hC wd_818 d_MS_set_59 ?_
      refine wi_land hC d_MS_set_62 ?_
      refine wi_ladd hC d_MS_set_63 ?_
      refine wa_st44 hC hp d_MS_set_64 ?_
      refine wi_nmM (fun s3 e_s3 => ?_)
      have hf : f_MS_set τ a1 a2 a3 a4 = s3 := by subst e_s3; subst e_s2; subst e_s1; subst e_t1; exact (if_pos h4)
      exact wi_vret hC hr hk d_MS_set_65 rfl (congrArg (fun z => (σ, z, q)) hf).symm hQ
    · skip
      have hf : f_MS_set τ a1 a2 a3 a4 = s1 := by subst e_s1; subst e_t1; exact (if_neg h4)
      exact wi_vret hC hr hk d_MS_set_37 rfl (congrArg (fun z => (σ, z, q)) hf).symm hQ
  refine wi_z_eq (b := (f_MS_none a1)) hC 12 d_MS_set_5 (by decide) (fun h1 => ?_) (fun h1 => ?_)
  · skip
    refine wi_iload_n hC 2 d_MS_set_12 rfl rfl ?_
    refine wi_if_lt hC 22 d_MS_set_13 (by decide) (fun h2 => ?_) (fun h2 => ?_)
    · skip
      refine wi_iconst hC 2 (by decide) d_MS_set_22 ?_
      refine wi_goto hC 27 d_MS_set_23 (by decide) ?_
      exact Jt1 2 (by exact (Eq.trans eTt1 (Eq.trans (if_neg h1) (if_pos h2))))
    · skip
      refine wi_iload_n hC 2 d_MS_set_16 rfl rfl ?_
      refine wi_ldc hC wd_805 d_MS_set_17 ?_
      refine wi_icmp_le hC 26 d_MS_set_19 (by decide) (fun h3 => ?_) (fun h3 => ?_)
      · skip
        refine wi_iconst hC 0 (by decide) d_MS_set_26 ?_
        exact Jt1 0 (by exact (Eq.trans eTt1 (Eq.trans (if_neg h1) (Eq.trans (if_neg h2) (if_pos h3)))))
      · skip
        refine wi_iconst hC 2 (by decide) d_MS_set_22 ?_
        refine wi_goto hC 27 d_MS_set_23 (by decide) ?_
        exact Jt1 2 (by exact (Eq.trans eTt1 (Eq.trans (if_neg h1) (Eq.trans (if_neg h2) (if_neg h3)))))
  · skip
    refine wi_iconst hC 1 (by decide) d_MS_set_8 ?_
    refine wi_goto hC 27 d_MS_set_9 (by decide) ?_
    exact Jt1 1 (by exact (Eq.trans eTt1 (if_pos h1)))
theorem k_MS_set {p : Program} {l : Launch} {e : Env} {R : Room} {s : State} {m : MethodId} {args : Array Value} {below : List Frame} {meth : Method} {c : Code} {Q : State → Prop} {E : Ev} {nL pc index : Nat} {lv : List (Nat × Value)} {rest : List Value} {cc : ByteArray} {own : String} {σ τ : St} {q : Int64} {a1 : Int32} {a2 : Int32} {a3 : Int32} {a4 : Int32} (hC : Cx p s m args c cc nL own E)  (hp : vp_in a1 8) (hl : Cond.methodLink own index y_MS_set ∈ WL) (hR : 1 + 1 ≤ R.frames ∧ 8 + (5 + 11) + 20 ≤ R.locals) (hs8 : (rest.map fun v => v.category).sum ≤ 8) (d : decode cc pc = .ok (.invokevirtual index, 3)) (k : WS p l e R s m args below meth c Q E nL (pc + 3) lv rest (σ, (f_MS_set τ a1 a2 a3 a4), q)) : WS p l e R s m args below meth c Q E nL pc lv (.int a4 :: .int a3 :: .int a2 :: .int a1 :: .ref 42 :: rest) (σ, τ, q) := by
  exact wi_callV hC (n := 4) (vs := [.int a1, .int a2, .int a3, .int a4]) (rest := rest) 42 12 (by decide) rfl rfl rfl (c_MS_set l E σ τ q a1 a2 a3 a4 hp) (by decide +kernel) wd_819 wd_809 wd_820 wd_821 ⟨rfl, rfl⟩ rfl rfl hl hR hs8 d k
set_option maxRecDepth 100000 in
set_option maxHeartbeats 400000 in
theorem c_MS_part (l : Launch) (E : Ev) (σ τ : St) (q : Int64) (a1 : Int32) (a2 : Int32) (hp : vp_in a1 8) : MF l y_MS_part prog_15_method_8_code 3 (some .int) { frames := 1, cells := 0, slots := 0, locals := 20 } E [.ref 42, .int a1, .int a2] (σ, τ, q) (some (.int ((f_MS_part τ a1 a2).1))) (σ, (f_MS_part τ a1 a2).2, q) := by
  refine MF_intro (lv0 := [(0, .ref 42), (1, .int a1), (2, .int a2)]) (by decide) wd_822 (Nat.le_of_ble_eq_true rfl) rfl ?_
  intro p e s m args below meth c Q hC hr hk hQ
  replace hC : Cx p s m args c prog_15_method_8_code 3 "PartnerStackModel$RealStepsModel" E := hC
  refine wi_aload_n hC 0 d_MS_part_0 rfl rfl ?_
  refine wi_iload_n hC 1 d_MS_part_1 rfl rfl ?_
  refine k_MS_none hC  wd_814 (by decide) (Nat.le_of_ble_eq_true rfl) d_MS_part_2 ?_
  obtain ⟨Tt1, eTt1⟩ : ∃ y : Int32, y = (
          if f_MS_none a1 = true then
            1
          else
            if a2 < 0 then
              2
            else
              if a2 ≤ 2 then
                0
              else
                2) := ⟨_, rfl⟩
  have Jt1 : ∀ (t1 : Int32), Tt1 = t1 → WS p l e { frames := 1, cells := 0, slots := 0, locals := 20 } s m args below meth c Q E 3 26 [(0, .ref 42), (1, .int a1), (2, .int a2)] [.int t1, .ref 42] (σ, τ, q) := by
    intro t1  e_t1
    rw [eTt1] at e_t1
    refine wp_MS_code hC wd_806 d_MS_part_26 ?_
    refine wi_nmM (fun s1 e_s1 => ?_)
    refine wi_aload_n hC 0 d_MS_part_29 rfl rfl ?_
    refine wg_MS_code hC wd_806 d_MS_part_30 ?_
    refine wi_if_le hC 38 d_MS_part_33 (by decide) (fun h4 => ?_) (fun h4 => ?_)
    · skip
      refine wi_iload_n hC 2 d_MS_part_38 rfl rfl ?_
      obtain ⟨Tt2, eTt2⟩ : ∃ y : Int32, y = (
              if a2 = 0 then
                gI s1 110 (jat a1)
              else
                if a2 = 1 then
                  Int64.toInt32 (jlshr (gJ s1 111 (jat a1)) 32)
                else
                  Int64.toInt32 (gJ s1 111 (jat a1))) := ⟨_, rfl⟩
      have Jt2 : ∀ (t2 : Int32), Tt2 = t2 → WS p l e { frames := 1, cells := 0, slots := 0, locals := 20 } s m args below meth c Q E 3 76 [(0, .ref 42), (1, .int a1), (2, .int a2)] [.int t2] (σ, s1, q) := by
        intro t2  e_t2
        rw [eTt2] at e_t2
        have hf : f_MS_part τ a1 a2 = (t2, s1) := by subst e_t2; subst e_s1; subst e_t1; exact (if_pos h4)
        exact wi_iret hC hr hk d_MS_part_76 (congrArg (fun z => some (Value.int z.1)) hf) (congrArg (fun z => (σ, z.2, q)) hf).symm hQ
      refine wi_if_ne hC 51 d_MS_part_39 (by decide) (fun h5 => ?_) (fun h5 => ?_)
      · skip
        refine wi_iload_n hC 2 d_MS_part_51 rfl rfl ?_
        refine wi_iconst hC 1 (by decide) d_MS_part_52 ?_
        refine wi_icmp_ne hC 69 d_MS_part_53 (by decide) (fun h6 => ?_) (fun h6 => ?_)
        · skip
          refine wi_aload_n hC 0 d_MS_part_69 rfl rfl ?_
          refine wg_MS_fraction hC wd_816 d_MS_part_70 ?_
          refine wi_iload_n hC 1 d_MS_part_73 rfl rfl ?_
          refine wa_ld44 hC hp d_MS_part_74 ?_
          refine wi_l2i hC d_MS_part_75 ?_
          exact Jt2 (Int64.toInt32 (gJ s1 111 (jat a1))) (by exact (Eq.trans eTt2 (Eq.trans (if_neg h5) (if_neg h6))))
        · skip
          refine wi_aload_n hC 0 d_MS_part_56 rfl rfl ?_
          refine wg_MS_fraction hC wd_816 d_MS_part_57 ?_
          refine wi_iload_n hC 1 d_MS_part_60 rfl rfl ?_
          refine wa_ld44 hC hp d_MS_part_61 ?_
          refine wi_bipush hC 32 (by decide) d_MS_part_62 ?_
          refine wi_lshr hC d_MS_part_64 ?_
          refine wi_l2i hC d_MS_part_65 ?_
          refine wi_goto hC 76 d_MS_part_66 (by decide) ?_
          exact Jt2 (Int64.toInt32 (jlshr (gJ s1 111 (jat a1)) 32)) (by exact (Eq.trans eTt2 (Eq.trans (if_neg h5) (if_pos h6))))
      · skip
        refine wi_aload_n hC 0 d_MS_part_42 rfl rfl ?_
        refine wg_MS_top hC wd_815 d_MS_part_43 ?_
        refine wi_iload_n hC 1 d_MS_part_46 rfl rfl ?_
        refine wa_ld43 hC hp d_MS_part_47 ?_
        refine wi_goto hC 76 d_MS_part_48 (by decide) ?_
        exact Jt2 (gI s1 110 (jat a1)) (by exact (Eq.trans eTt2 (if_pos h5)))
    · skip
      refine wi_iconst hC 0 (by decide) d_MS_part_36 ?_
      have hf : f_MS_part τ a1 a2 = (0, s1) := by subst e_s1; subst e_t1; exact (if_neg h4)
      exact wi_iret hC hr hk d_MS_part_37 (congrArg (fun z => some (Value.int z.1)) hf) (congrArg (fun z => (σ, z.2, q)) hf).symm hQ
  refine wi_z_eq (b := (f_MS_none a1)) hC 12 d_MS_part_5 (by decide) (fun h1 => ?_) (fun h1 => ?_)
  · skip
    refine wi_iload_n hC 2 d_MS_part_12 rfl rfl ?_
    refine wi_if_lt hC 21 d_MS_part_13 (by decide) (fun h2 => ?_) (fun h2 => ?_)
    · skip
      refine wi_iconst hC 2 (by decide) d_MS_part_21 ?_
      refine wi_goto hC 26 d_MS_part_22 (by decide) ?_
      exact Jt1 2 (by exact (Eq.trans eTt1 (Eq.trans (if_neg h1) (if_pos h2))))
    · skip
      refine wi_iload_n hC 2 d_MS_part_16 rfl rfl ?_
      refine wi_iconst hC 2 (by decide) d_MS_part_17 ?_
      refine wi_icmp_le hC 25 d_MS_part_18 (by decide) (fun h3 => ?_) (fun h3 => ?_)
      · skip
        refine wi_iconst hC 0 (by decide) d_MS_part_25 ?_
        exact Jt1 0 (by exact (Eq.trans eTt1 (Eq.trans (if_neg h1) (Eq.trans (if_neg h2) (if_pos h3)))))
      · skip
        refine wi_iconst hC 2 (by decide) d_MS_part_21 ?_
        refine wi_goto hC 26 d_MS_part_22 (by decide) ?_
        exact Jt1 2 (by exact (Eq.trans eTt1 (Eq.trans (if_neg h1) (Eq.trans (if_neg h2) (if_neg h3)))))
  · skip
    refine wi_iconst hC 1 (by decide) d_MS_part_8 ?_
    refine wi_goto hC 26 d_MS_part_9 (by decide) ?_
    exact Jt1 1 (by exact (Eq.trans eTt1 (if_pos h1)))
theorem k_MS_part {p : Program} {l : Launch} {e : Env} {R : Room} {s : State} {m : MethodId} {args : Array Value} {below : List Frame} {meth : Method} {c : Code} {Q : State → Prop} {E : Ev} {nL pc index : Nat} {lv : List (Nat × Value)} {rest : List Value} {cc : ByteArray} {own : String} {σ τ : St} {q : Int64} {a1 : Int32} {a2 : Int32} (hC : Cx p s m args c cc nL own E)  (hp : vp_in a1 8) (hl : Cond.methodLink own index y_MS_part ∈ WL) (hR : 1 + 1 ≤ R.frames ∧ 8 + (3 + 11) + 20 ≤ R.locals) (hs8 : (rest.map fun v => v.category).sum ≤ 8) (d : decode cc pc = .ok (.invokevirtual index, 3)) (k : WS p l e R s m args below meth c Q E nL (pc + 3) lv ((.int ((f_MS_part τ a1 a2).1)) :: rest) (σ, (f_MS_part τ a1 a2).2, q)) : WS p l e R s m args below meth c Q E nL pc lv (.int a2 :: .int a1 :: .ref 42 :: rest) (σ, τ, q) := by
  exact wi_callV hC (n := 2) (vs := [.int a1, .int a2]) (rest := rest) 42 12 (by decide) rfl rfl rfl (c_MS_part l E σ τ q a1 a2 hp) (by decide +kernel) wd_822 wd_809 wd_823 wd_824 ⟨rfl, rfl⟩ rfl rfl hl hR hs8 d k
set_option maxRecDepth 100000 in
set_option maxHeartbeats 400000 in
theorem c_MS_begin (l : Launch) (E : Ev) (σ τ : St) (q : Int64)   : MF l y_MS_begin prog_15_method_19_code 1 none { frames := 0, cells := 0, slots := 0, locals := 0 } E [.ref 42] (σ, τ, q) none (σ, (f_MS_begin τ), q) := by
  refine MF_intro (lv0 := [(0, .ref 42)]) (by decide) wd_827 (Nat.le_of_ble_eq_true rfl) rfl ?_
  intro p e s m args below meth c Q hC hr hk hQ
  replace hC : Cx p s m args c prog_15_method_19_code 1 "PartnerStackModel$RealStepsModel" E := hC
  refine wi_aload_n hC 0 d_MS_begin_0 rfl rfl ?_
  refine wi_iconst hC 0 (by decide) d_MS_begin_1 ?_
  refine wp_MS_told hC wd_825 d_MS_begin_2 ?_
  refine wi_nmM (fun s1 e_s1 => ?_)
  refine wi_aload_n hC 0 d_MS_begin_5 rfl rfl ?_
  refine wi_iconst hC 0 (by decide) d_MS_begin_6 ?_
  refine wp_MS_answered hC false rfl wd_826 d_MS_begin_7 ?_
  refine wi_nmM (fun s2 e_s2 => ?_)
  have hf : f_MS_begin τ = s2 := by subst e_s2; subst e_s1; exact rfl
  exact wi_vret hC hr hk d_MS_begin_10 rfl (congrArg (fun z => (σ, z, q)) hf).symm hQ
theorem k_MS_begin {p : Program} {l : Launch} {e : Env} {R : Room} {s : State} {m : MethodId} {args : Array Value} {below : List Frame} {meth : Method} {c : Code} {Q : State → Prop} {E : Ev} {nL pc index : Nat} {lv : List (Nat × Value)} {rest : List Value} {cc : ByteArray} {own : String} {σ τ : St} {q : Int64}  (hC : Cx p s m args c cc nL own E)   (hl : Cond.methodLink own index y_MS_begin ∈ WL) (hR : 0 + 1 ≤ R.frames ∧ 8 + (1 + 11) + 0 ≤ R.locals) (hs8 : (rest.map fun v => v.category).sum ≤ 8) (d : decode cc pc = .ok (.invokevirtual index, 3)) (k : WS p l e R s m args below meth c Q E nL (pc + 3) lv rest (σ, (f_MS_begin τ), q)) : WS p l e R s m args below meth c Q E nL pc lv (.ref 42 :: rest) (σ, τ, q) := by
  exact wi_callV hC (n := 0) (vs := []) (rest := rest) 42 12 (by decide) rfl rfl rfl (c_MS_begin l E σ τ q  ) (by decide +kernel) wd_827 wd_809 wd_828 wd_829 ⟨rfl, rfl⟩ rfl rfl hl hR hs8 d k
set_option maxRecDepth 100000 in
set_option maxHeartbeats 400000 in
theorem c_MS_kind (l : Launch) (E : Ev) (σ τ : St) (q : Int64) (a1 : Int32) (hp : vp_in a1 8) : MF l y_MS_kind prog_15_method_11_code 4 (some .int) { frames := 0, cells := 0, slots := 0, locals := 0 } E [.ref 42, .int a1] (σ, τ, q) (some (.int (f_MS_kind τ a1))) (σ, τ, q) := by
  refine MF_intro (lv0 := [(0, .ref 42), (1, .int a1)]) (by decide) wd_832 (Nat.le_of_ble_eq_true rfl) rfl ?_
  intro p e s m args below meth c Q hC hr hk hQ
  replace hC : Cx p s m args c prog_15_method_11_code 4 "PartnerStackModel$RealStepsModel" E := hC
  refine wi_aload_n hC 0 d_MS_kind_0 rfl rfl ?_
  refine wg_MS_top hC wd_815 d_MS_kind_1 ?_
  refine wi_iload_n hC 1 d_MS_kind_4 rfl rfl ?_
  refine wa_ld43 hC hp d_MS_kind_5 ?_
  refine wi_ldc hC wd_830 d_MS_kind_6 ?_
  refine wi_irem hC (by decide) d_MS_kind_8 ?_
  refine wi_nmI (fun v1 e_v1 => ?_)
  refine wi_istore_n hC [(2, .int v1), (0, .ref 42), (1, .int a1)] d_MS_kind_9 rfl (by decide) rfl ?_
  refine wi_aload_n hC 1 d_MS_kind_10 rfl rfl ?_
  refine wg_MS_fraction hC wd_816 d_MS_kind_11 ?_
  refine wi_iload_n hC 2 d_MS_kind_14 rfl rfl ?_
  refine wa_ld44 hC hp d_MS_kind_15 ?_
  refine wi_lconst hC 0 (by decide) d_MS_kind_16 ?_
  obtain ⟨Tt1, eTt1⟩ : ∃ y : Bool, y = (
          if gJ τ 111 (jat a1) = 0 then
            true
          else
            if gJ τ 111 (jat a1) = (-9223372036854775808) then
              true
            else
              false) := ⟨_, rfl⟩
  have Jt1 : ∀ (t1 : Bool), Tt1 = t1 → WS p l e { frames := 0, cells := 0, slots := 0, locals := 0 } s m args below meth c Q E 4 39 [(2, .int v1), (0, .ref 42), (1, .int a1)] [.int (bI t1)] (σ, τ, q) := by
    intro t1  e_t1
    rw [eTt1] at e_t1
    refine wi_istore_n hC [(3, .int (bI t1)), (2, .int v1), (0, .ref 42), (1, .int a1)] d_MS_kind_39 rfl (by decide) rfl ?_
    refine wi_iload_n hC 1 d_MS_kind_40 rfl rfl ?_
    refine wi_sipush hC 32767 (by decide) d_MS_kind_41 ?_
    refine wi_icmp_ne hC 57 d_MS_kind_44 (by decide) (fun h3 => ?_) (fun h3 => ?_)
    · skip
      refine wi_iload_n hC 1 d_MS_kind_57 rfl rfl ?_
      refine wi_if_ne hC 78 d_MS_kind_58 (by decide) (fun h4 => ?_) (fun h4 => ?_)
      · skip
        refine wi_aload_n hC 2 d_MS_kind_78 rfl rfl ?_
        refine wg_MS_fraction hC wd_816 d_MS_kind_79 ?_
        refine wi_iload_n hC 3 d_MS_kind_82 rfl rfl ?_
        refine wa_ld44 hC hp d_MS_kind_83 ?_
        refine wi_lconst hC 0 (by decide) d_MS_kind_84 ?_
        obtain ⟨Tt2, eTt2⟩ : ∃ y : Int32, y = (
                if 0 ≤ (gJ τ 111 (jat a1)) then
                  2
                else
                  3) := ⟨_, rfl⟩
        have Jt2 : ∀ (t2 : Int32), Tt2 = t2 → WS p l e { frames := 0, cells := 0, slots := 0, locals := 0 } s m args below meth c Q E 4 94 [(3, .int (bI t1)), (2, .int v1), (0, .ref 42), (1, .int a1)] [.int t2] (σ, τ, q) := by
          intro t2  e_t2
          rw [eTt2] at e_t2
          have hf : f_MS_kind τ a1 = t2 := by subst e_t2; subst e_t1; subst e_v1; exact (Eq.trans (if_neg h3) (if_neg h4))
          exact wi_iret hC hr hk d_MS_kind_94 (congrArg (fun z => some (Value.int z)) hf) rfl hQ
        refine wi_lcmp_ge hC 93 d_MS_kind_85 d_MS_kind_86 (by decide) (fun h5 => ?_) (fun h5 => ?_)
        · skip
          refine wi_iconst hC 2 (by decide) d_MS_kind_93 ?_
          exact Jt2 2 (by exact (Eq.trans eTt2 (if_pos h5)))
        · skip
          refine wi_iconst hC 3 (by decide) d_MS_kind_89 ?_
          refine wi_goto hC 94 d_MS_kind_90 (by decide) ?_
          exact Jt2 3 (by exact (Eq.trans eTt2 (if_neg h5)))
      · skip
        refine wi_aload_n hC 2 d_MS_kind_61 rfl rfl ?_
        refine wg_MS_fraction hC wd_816 d_MS_kind_62 ?_
        refine wi_iload_n hC 3 d_MS_kind_65 rfl rfl ?_
        refine wa_ld44 hC hp d_MS_kind_66 ?_
        refine wi_lconst hC 0 (by decide) d_MS_kind_67 ?_
        obtain ⟨Tt3, eTt3⟩ : ∃ y : Bool, y = (
                if gJ τ 111 (jat a1) = 0 then
                  false
                else
                  true) := ⟨_, rfl⟩
        have Jt3 : ∀ (t3 : Bool), Tt3 = t3 → WS p l e { frames := 0, cells := 0, slots := 0, locals := 0 } s m args below meth c Q E 4 77 [(3, .int (bI t1)), (2, .int v1), (0, .ref 42), (1, .int a1)] [.int (bI t3)] (σ, τ, q) := by
          intro t3  e_t3
          rw [eTt3] at e_t3
          have hf : f_MS_kind τ a1 = bI t3 := by subst e_t3; subst e_t1; subst e_v1; exact (Eq.trans (if_neg h3) (if_pos h4))
          exact wi_iret hC hr hk d_MS_kind_77 (congrArg (fun z => some (Value.int z)) hf) rfl hQ
        refine wi_lcmp_ne hC 76 d_MS_kind_68 d_MS_kind_69 (by decide) (fun h6 => ?_) (fun h6 => ?_)
        · skip
          refine wi_iconst hC 1 (by decide) d_MS_kind_76 ?_
          exact Jt3 true (by exact (Eq.trans eTt3 (if_neg h6)))
        · skip
          refine wi_iconst hC 0 (by decide) d_MS_kind_72 ?_
          refine wi_goto hC 77 d_MS_kind_73 (by decide) ?_
          exact Jt3 false (by exact (Eq.trans eTt3 (if_pos h6)))
    · skip
      refine wi_iload_n hC 0 d_MS_kind_47 rfl rfl ?_
      obtain ⟨Tt4, eTt4⟩ : ∃ y : Int32, y = (
              if t1 = true then
                4
              else
                5) := ⟨_, rfl⟩
      have Jt4 : ∀ (t4 : Int32), Tt4 = t4 → WS p l e { frames := 0, cells := 0, slots := 0, locals := 0 } s m args below meth c Q E 4 56 [(3, .int (bI t1)), (2, .int v1), (0, .ref 42), (1, .int a1)] [.int t4] (σ, τ, q) := by
        intro t4  e_t4
        rw [eTt4] at e_t4
        have hf : f_MS_kind τ a1 = t4 := by subst e_t4; subst e_t1; subst e_v1; exact (if_pos h3)
        exact wi_iret hC hr hk d_MS_kind_56 (congrArg (fun z => some (Value.int z)) hf) rfl hQ
      refine wi_z_eq (b := t1) hC 55 d_MS_kind_48 (by decide) (fun h7 => ?_) (fun h7 => ?_)
      · skip
        refine wi_iconst hC 5 (by decide) d_MS_kind_55 ?_
        exact Jt4 5 (by exact (Eq.trans eTt4 (if_neg h7)))
      · skip
        refine wi_iconst hC 4 (by decide) d_MS_kind_51 ?_
        refine wi_goto hC 56 d_MS_kind_52 (by decide) ?_
        exact Jt4 4 (by exact (Eq.trans eTt4 (if_pos h7)))
  refine wi_lcmp_eq hC 34 d_MS_kind_17 d_MS_kind_18 (by decide) (fun h1 => ?_) (fun h1 => ?_)
  · skip
    refine wi_iconst hC 1 (by decide) d_MS_kind_34 ?_
    refine wi_goto hC 39 d_MS_kind_35 (by decide) ?_
    exact Jt1 true (by exact (Eq.trans eTt1 (if_pos h1)))
  · skip
    refine wi_aload_n hC 1 d_MS_kind_21 rfl rfl ?_
    refine wg_MS_fraction hC wd_816 d_MS_kind_22 ?_
    refine wi_iload_n hC 2 d_MS_kind_25 rfl rfl ?_
    refine wa_ld44 hC hp d_MS_kind_26 ?_
    refine wi_ldc2 hC wd_831 d_MS_kind_27 ?_
    refine wi_lcmp_ne hC 38 d_MS_kind_30 d_MS_kind_31 (by decide) (fun h2 => ?_) (fun h2 => ?_)
    · skip
      refine wi_iconst hC 0 (by decide) d_MS_kind_38 ?_
      exact Jt1 false (by exact (Eq.trans eTt1 (Eq.trans (if_neg h1) (if_neg h2))))
    · skip
      refine wi_iconst hC 1 (by decide) d_MS_kind_34 ?_
      refine wi_goto hC 39 d_MS_kind_35 (by decide) ?_
      exact Jt1 true (by exact (Eq.trans eTt1 (Eq.trans (if_neg h1) (if_pos h2))))
theorem k_MS_kind {p : Program} {l : Launch} {e : Env} {R : Room} {s : State} {m : MethodId} {args : Array Value} {below : List Frame} {meth : Method} {c : Code} {Q : State → Prop} {E : Ev} {nL pc index : Nat} {lv : List (Nat × Value)} {rest : List Value} {cc : ByteArray} {own : String} {σ τ : St} {q : Int64} {a1 : Int32} (hC : Cx p s m args c cc nL own E)  (hp : vp_in a1 8) (hl : Cond.methodLink own index y_MS_kind ∈ WL) (hR : 0 + 1 ≤ R.frames ∧ 8 + (4 + 11) + 0 ≤ R.locals) (hs8 : (rest.map fun v => v.category).sum ≤ 8) (d : decode cc pc = .ok (.invokevirtual index, 3)) (k : WS p l e R s m args below meth c Q E nL (pc + 3) lv ((.int (f_MS_kind τ a1)) :: rest) (σ, τ, q)) : WS p l e R s m args below meth c Q E nL pc lv (.int a1 :: .ref 42 :: rest) (σ, τ, q) := by
  exact wi_callV hC (n := 1) (vs := [.int a1]) (rest := rest) 42 12 (by decide) rfl rfl rfl (c_MS_kind l E σ τ q a1 hp) (by decide +kernel) wd_832 wd_809 wd_833 wd_834 ⟨rfl, rfl⟩ rfl rfl hl hR hs8 d k
set_option maxRecDepth 100000 in
set_option maxHeartbeats 400000 in
theorem c_MS_masked (l : Launch) (E : Ev) (σ τ : St) (q : Int64) (a1 : Int32) (hp : ¬ a1 = 0) : MF l y_MS_masked prog_15_method_4_code 2 (some .boolean) { frames := 0, cells := 0, slots := 0, locals := 0 } E [.ref 42, .int a1] (σ, τ, q) (some (.int (bI (f_MS_masked τ a1)))) (σ, τ, q) := by
  refine MF_intro (lv0 := [(0, .ref 42), (1, .int a1)]) (by decide) wd_835 (Nat.le_of_ble_eq_true rfl) rfl ?_
  intro p e s m args below meth c Q hC hr hk hQ
  replace hC : Cx p s m args c prog_15_method_4_code 2 "PartnerStackModel$RealStepsModel" E := hC
  refine wi_aload_n hC 0 d_MS_masked_0 rfl rfl ?_
  refine wg_MS_control hC wd_807 d_MS_masked_1 ?_
  refine wi_iload_n hC 1 d_MS_masked_4 rfl rfl ?_
  refine wi_idiv hC hp d_MS_masked_5 ?_
  refine wi_iconst hC 2 (by decide) d_MS_masked_6 ?_
  refine wi_irem hC (by decide) d_MS_masked_7 ?_
  refine wi_iconst hC 1 (by decide) d_MS_masked_8 ?_
  obtain ⟨Tt1, eTt1⟩ : ∃ y : Bool, y = (
          if jrem ((gI τ 27 42) / a1) 2 = 1 then
            true
          else
            false) := ⟨_, rfl⟩
  have Jt1 : ∀ (t1 : Bool), Tt1 = t1 → WS p l e { frames := 0, cells := 0, slots := 0, locals := 0 } s m args below meth c Q E 2 17 [(0, .ref 42), (1, .int a1)] [.int (bI t1)] (σ, τ, q) := by
    intro t1  e_t1
    rw [eTt1] at e_t1
    have hf : f_MS_masked τ a1 = t1 := by subst e_t1; exact rfl
    exact wi_zret hC hr hk d_MS_masked_17 rfl (congrArg (fun z => some (Value.int (bI z))) hf) rfl hQ
  refine wi_icmp_ne hC 16 d_MS_masked_9 (by decide) (fun h1 => ?_) (fun h1 => ?_)
  · skip
    refine wi_iconst hC 0 (by decide) d_MS_masked_16 ?_
    exact Jt1 false (by exact (Eq.trans eTt1 (if_neg h1)))
  · skip
    refine wi_iconst hC 1 (by decide) d_MS_masked_12 ?_
    refine wi_goto hC 17 d_MS_masked_13 (by decide) ?_
    exact Jt1 true (by exact (Eq.trans eTt1 (if_pos h1)))
theorem k_MS_masked {p : Program} {l : Launch} {e : Env} {R : Room} {s : State} {m : MethodId} {args : Array Value} {below : List Frame} {meth : Method} {c : Code} {Q : State → Prop} {E : Ev} {nL pc index : Nat} {lv : List (Nat × Value)} {rest : List Value} {cc : ByteArray} {own : String} {σ τ : St} {q : Int64} {a1 : Int32} (hC : Cx p s m args c cc nL own E)  (hp : ¬ a1 = 0) (hl : Cond.methodLink own index y_MS_masked ∈ WL) (hR : 0 + 1 ≤ R.frames ∧ 8 + (2 + 11) + 0 ≤ R.locals) (hs8 : (rest.map fun v => v.category).sum ≤ 8) (d : decode cc pc = .ok (.invokevirtual index, 3)) (k : WS p l e R s m args below meth c Q E nL (pc + 3) lv ((.int (bI (f_MS_masked τ a1))) :: rest) (σ, τ, q)) : WS p l e R s m args below meth c Q E nL pc lv (.int a1 :: .ref 42 :: rest) (σ, τ, q) := by
  exact wi_callV hC (n := 1) (vs := [.int a1]) (rest := rest) 42 12 (by decide) rfl rfl rfl (c_MS_masked l E σ τ q a1 hp) (by decide +kernel) wd_835 wd_809 wd_836 wd_837 ⟨rfl, rfl⟩ rfl rfl hl hR hs8 d k
set_option maxRecDepth 100000 in
set_option maxHeartbeats 400000 in
theorem c_MS_lessSize (l : Launch) (E : Ev) (σ τ : St) (q : Int64) (a1 : Int64) (a2 : Int64)  : MF l y_MS_lessSize prog_15_method_16_code 4 (some .boolean) { frames := 0, cells := 0, slots := 0, locals := 0 } E [.long a1, .long a2] (σ, τ, q) (some (.int (bI (f_MS_lessSize a1 a2)))) (σ, τ, q) := by
  refine MF_intro (lv0 := [(0, .long a1), (2, .long a2)]) (by decide) wd_838 (Nat.le_of_ble_eq_true rfl) rfl ?_
  intro p e s m args below meth c Q hC hr hk hQ
  replace hC : Cx p s m args c prog_15_method_16_code 4 "PartnerStackModel$RealStepsModel" E := hC
  refine wi_lload_n hC 0 d_MS_lessSize_0 rfl rfl ?_
  refine wi_ldc2 hC wd_831 d_MS_lessSize_1 ?_
  refine wi_ladd hC d_MS_lessSize_4 ?_
  refine wi_lload_n hC 1 d_MS_lessSize_5 rfl rfl ?_
  refine wi_ldc2 hC wd_831 d_MS_lessSize_6 ?_
  refine wi_ladd hC d_MS_lessSize_9 ?_
  obtain ⟨Tt1, eTt1⟩ : ∃ y : Bool, y = (
          if (a2 + (-9223372036854775808)) ≤ (a1 + (-9223372036854775808)) then
            false
          else
            true) := ⟨_, rfl⟩
  have Jt1 : ∀ (t1 : Bool), Tt1 = t1 → WS p l e { frames := 0, cells := 0, slots := 0, locals := 0 } s m args below meth c Q E 4 19 [(0, .long a1), (2, .long a2)] [.int (bI t1)] (σ, τ, q) := by
    intro t1  e_t1
    rw [eTt1] at e_t1
    have hf : f_MS_lessSize a1 a2 = t1 := by subst e_t1; exact rfl
    exact wi_zret hC hr hk d_MS_lessSize_19 rfl (congrArg (fun z => some (Value.int (bI z))) hf) rfl hQ
  refine wi_lcmp_ge hC 18 d_MS_lessSize_10 d_MS_lessSize_11 (by decide) (fun h1 => ?_) (fun h1 => ?_)
  · skip
    refine wi_iconst hC 0 (by decide) d_MS_lessSize_18 ?_
    exact Jt1 false (by exact (Eq.trans eTt1 (if_pos h1)))
  · skip
    refine wi_iconst hC 1 (by decide) d_MS_lessSize_14 ?_
    refine wi_goto hC 19 d_MS_lessSize_15 (by decide) ?_
    exact Jt1 true (by exact (Eq.trans eTt1 (if_neg h1)))
theorem k_MS_lessSize {p : Program} {l : Launch} {e : Env} {R : Room} {s : State} {m : MethodId} {args : Array Value} {below : List Frame} {meth : Method} {c : Code} {Q : State → Prop} {E : Ev} {nL pc index : Nat} {lv : List (Nat × Value)} {rest : List Value} {cc : ByteArray} {own : String} {σ τ : St} {q : Int64} {a1 : Int64} {a2 : Int64} (hC : Cx p s m args c cc nL own E)   (hl : Cond.methodLink own index y_MS_lessSize ∈ WL) (hR : 0 + 1 ≤ R.frames ∧ 8 + (4 + 11) + 0 ≤ R.locals) (hs8 : (rest.map fun v => v.category).sum ≤ 8) (d : decode cc pc = .ok (.invokestatic index, 3)) (k : WS p l e R s m args below meth c Q E nL (pc + 3) lv ((.int (bI (f_MS_lessSize a1 a2))) :: rest) (σ, τ, q)) : WS p l e R s m args below meth c Q E nL pc lv (.long a2 :: .long a1 :: rest) (σ, τ, q) := by
  exact wi_callS hC (n := 2) (vs := [.long a1, .long a2]) (rest := rest) (c_MS_lessSize l E σ τ q a1 a2 ) (by decide +kernel) wd_838 wd_809 wd_839 ⟨rfl, rfl⟩ rfl rfl hl hR hs8 d k
set_option maxRecDepth 100000 in
set_option maxHeartbeats 400000 in
theorem c_MS_minus (l : Launch) (E : Ev) (σ τ : St) (q : Int64) (a1 : Int32) (hp : vp_in a1 8) : MF l y_MS_minus prog_15_method_12_code 2 (some .boolean) { frames := 0, cells := 0, slots := 0, locals := 0 } E [.ref 42, .int a1] (σ, τ, q) (some (.int (bI (f_MS_minus τ a1)))) (σ, τ, q) := by
  refine MF_intro (lv0 := [(0, .ref 42), (1, .int a1)]) (by decide) wd_840 (Nat.le_of_ble_eq_true rfl) rfl ?_
  intro p e s m args below meth c Q hC hr hk hQ
  replace hC : Cx p s m args c prog_15_method_12_code 2 "PartnerStackModel$RealStepsModel" E := hC
  refine wi_aload_n hC 0 d_MS_minus_0 rfl rfl ?_
  refine wg_MS_top hC wd_815 d_MS_minus_1 ?_
  refine wi_iload_n hC 1 d_MS_minus_4 rfl rfl ?_
  refine wa_ld43 hC hp d_MS_minus_5 ?_
  refine wi_sipush hC 32767 (by decide) d_MS_minus_6 ?_
  obtain ⟨Tt1, eTt1⟩ : ∃ y : Bool, y = (
          if (gI τ 110 (jat a1)) ≤ 32767 then
            false
          else
            true) := ⟨_, rfl⟩
  have Jt1 : ∀ (t1 : Bool), Tt1 = t1 → WS p l e { frames := 0, cells := 0, slots := 0, locals := 0 } s m args below meth c Q E 2 17 [(0, .ref 42), (1, .int a1)] [.int (bI t1)] (σ, τ, q) := by
    intro t1  e_t1
    rw [eTt1] at e_t1
    have hf : f_MS_minus τ a1 = t1 := by subst e_t1; exact rfl
    exact wi_zret hC hr hk d_MS_minus_17 rfl (congrArg (fun z => some (Value.int (bI z))) hf) rfl hQ
  refine wi_icmp_le hC 16 d_MS_minus_9 (by decide) (fun h1 => ?_) (fun h1 => ?_)
  · skip
    refine wi_iconst hC 0 (by decide) d_MS_minus_16 ?_
    exact Jt1 false (by exact (Eq.trans eTt1 (if_pos h1)))
  · skip
    refine wi_iconst hC 1 (by decide) d_MS_minus_12 ?_
    refine wi_goto hC 17 d_MS_minus_13 (by decide) ?_
    exact Jt1 true (by exact (Eq.trans eTt1 (if_neg h1)))
theorem k_MS_minus {p : Program} {l : Launch} {e : Env} {R : Room} {s : State} {m : MethodId} {args : Array Value} {below : List Frame} {meth : Method} {c : Code} {Q : State → Prop} {E : Ev} {nL pc index : Nat} {lv : List (Nat × Value)} {rest : List Value} {cc : ByteArray} {own : String} {σ τ : St} {q : Int64} {a1 : Int32} (hC : Cx p s m args c cc nL own E)  (hp : vp_in a1 8) (hl : Cond.methodLink own index y_MS_minus ∈ WL) (hR : 0 + 1 ≤ R.frames ∧ 8 + (2 + 11) + 0 ≤ R.locals) (hs8 : (rest.map fun v => v.category).sum ≤ 8) (d : decode cc pc = .ok (.invokevirtual index, 3)) (k : WS p l e R s m args below meth c Q E nL (pc + 3) lv ((.int (bI (f_MS_minus τ a1))) :: rest) (σ, τ, q)) : WS p l e R s m args below meth c Q E nL pc lv (.int a1 :: .ref 42 :: rest) (σ, τ, q) := by
  exact wi_callV hC (n := 1) (vs := [.int a1]) (rest := rest) 42 12 (by decide) rfl rfl rfl (c_MS_minus l E σ τ q a1 hp) (by decide +kernel) wd_840 wd_809 wd_841 wd_842 ⟨rfl, rfl⟩ rfl rfl hl hR hs8 d k
set_option maxRecDepth 100000 in
set_option maxHeartbeats 400000 in
theorem c_MS_tell (l : Launch) (E : Ev) (σ τ : St) (q : Int64) (a1 : Int32) (hp : ¬ a1 = 0) : MF l y_MS_tell prog_15_method_18_code 2 (some .boolean) { frames := 1, cells := 0, slots := 0, locals := 21 } E [.ref 42, .int a1] (σ, τ, q) (some (.int (bI ((f_MS_tell τ a1).1)))) (σ, (f_MS_tell τ a1).2, q) := by
  refine MF_intro (lv0 := [(0, .ref 42), (1, .int a1)]) (by decide) wd_844 (Nat.le_of_ble_eq_true rfl) rfl ?_
  intro p e s m args below meth c Q hC hr hk hQ
  replace hC : Cx p s m args c prog_15_method_18_code 2 "PartnerStackModel$RealStepsModel" E := hC
  refine wi_aload_n hC 0 d_MS_tell_0 rfl rfl ?_
  refine wi_aload_n hC 0 d_MS_tell_1 rfl rfl ?_
  refine wg_MS_told hC wd_825 d_MS_tell_2 ?_
  refine wi_iload_n hC 1 d_MS_tell_5 rfl rfl ?_
  refine wi_idiv hC hp d_MS_tell_6 ?_
  refine wi_iconst hC 2 (by decide) d_MS_tell_7 ?_
  refine wi_irem hC (by decide) d_MS_tell_8 ?_
  refine wi_iconst hC 1 (by decide) d_MS_tell_9 ?_
  obtain ⟨Tt1, eTt1⟩ : ∃ y : Int32, y = (
          if jrem ((gI τ 28 42) / a1) 2 = 1 then
            gI τ 28 42
          else
            (gI τ 28 42) + a1) := ⟨_, rfl⟩
  have Jt1 : ∀ (t1 : Int32), Tt1 = t1 → WS p l e { frames := 1, cells := 0, slots := 0, locals := 21 } s m args below meth c Q E 2 26 [(0, .ref 42), (1, .int a1)] [.int t1, .ref 42] (σ, τ, q) := by
    intro t1  e_t1
    rw [eTt1] at e_t1
    refine wp_MS_told hC wd_825 d_MS_tell_26 ?_
    refine wi_nmM (fun s1 e_s1 => ?_)
    refine wi_aload_n hC 0 d_MS_tell_29 rfl rfl ?_
    refine wi_iload_n hC 1 d_MS_tell_30 rfl rfl ?_
    refine k_MS_masked hC hp wd_843 (by decide) (Nat.le_of_ble_eq_true rfl) d_MS_tell_31 ?_
    have hf : f_MS_tell τ a1 = (f_MS_masked s1 a1, s1) := by subst e_s1; subst e_t1; exact rfl
    exact wi_zret hC hr hk d_MS_tell_34 rfl (congrArg (fun z => some (Value.int (bI z.1))) hf) (congrArg (fun z => (σ, z.2, q)) hf).symm hQ
  refine wi_icmp_ne hC 20 d_MS_tell_10 (by decide) (fun h1 => ?_) (fun h1 => ?_)
  · skip
    refine wi_aload_n hC 0 d_MS_tell_20 rfl rfl ?_
    refine wg_MS_told hC wd_825 d_MS_tell_21 ?_
    refine wi_iload_n hC 1 d_MS_tell_24 rfl rfl ?_
    refine wi_iadd hC d_MS_tell_25 ?_
    exact Jt1 ((gI τ 28 42) + a1) (by exact (Eq.trans eTt1 (if_neg h1)))
  · skip
    refine wi_aload_n hC 0 d_MS_tell_13 rfl rfl ?_
    refine wg_MS_told hC wd_825 d_MS_tell_14 ?_
    refine wi_goto hC 26 d_MS_tell_17 (by decide) ?_
    exact Jt1 (gI τ 28 42) (by exact (Eq.trans eTt1 (if_pos h1)))
theorem k_MS_tell {p : Program} {l : Launch} {e : Env} {R : Room} {s : State} {m : MethodId} {args : Array Value} {below : List Frame} {meth : Method} {c : Code} {Q : State → Prop} {E : Ev} {nL pc index : Nat} {lv : List (Nat × Value)} {rest : List Value} {cc : ByteArray} {own : String} {σ τ : St} {q : Int64} {a1 : Int32} (hC : Cx p s m args c cc nL own E)  (hp : ¬ a1 = 0) (hl : Cond.methodLink own index y_MS_tell ∈ WL) (hR : 1 + 1 ≤ R.frames ∧ 8 + (2 + 11) + 21 ≤ R.locals) (hs8 : (rest.map fun v => v.category).sum ≤ 8) (d : decode cc pc = .ok (.invokevirtual index, 3)) (k : WS p l e R s m args below meth c Q E nL (pc + 3) lv ((.int (bI ((f_MS_tell τ a1).1))) :: rest) (σ, (f_MS_tell τ a1).2, q)) : WS p l e R s m args below meth c Q E nL pc lv (.int a1 :: .ref 42 :: rest) (σ, τ, q) := by
  exact wi_callV hC (n := 1) (vs := [.int a1]) (rest := rest) 42 12 (by decide) rfl rfl rfl (c_MS_tell l E σ τ q a1 hp) (by decide +kernel) wd_844 wd_809 wd_845 wd_846 ⟨rfl, rfl⟩ rfl rfl hl hR hs8 d k
set_option maxRecDepth 100000 in
set_option maxHeartbeats 400000 in
theorem c_MS_answer (l : Launch) (E : Ev) (σ τ : St) (q : Int64) (a1 : Int32) (a2 : Int64)  : MF l y_MS_answer prog_15_method_17_code 4 none { frames := 0, cells := 0, slots := 0, locals := 0 } E [.ref 42, .int a1, .long a2] (σ, τ, q) none (σ, (f_MS_answer τ a1 a2), q) := by
  refine MF_intro (lv0 := [(0, .ref 42), (1, .int a1), (2, .long a2)]) (by decide) wd_849 (Nat.le_of_ble_eq_true rfl) rfl ?_
  intro p e s m args below meth c Q hC hr hk hQ
  replace hC : Cx p s m args c prog_15_method_17_code 4 "PartnerStackModel$RealStepsModel" E := hC
  refine wi_aload_n hC 0 d_MS_answer_0 rfl rfl ?_
  refine wi_iload_n hC 1 d_MS_answer_1 rfl rfl ?_
  refine wp_MS_answerTop hC wd_847 d_MS_answer_2 ?_
  refine wi_nmM (fun s1 e_s1 => ?_)
  refine wi_aload_n hC 0 d_MS_answer_5 rfl rfl ?_
  refine wi_lload_n hC 2 d_MS_answer_6 rfl rfl ?_
  refine wp_MS_answerFraction hC wd_848 d_MS_answer_7 ?_
  refine wi_nmM (fun s2 e_s2 => ?_)
  refine wi_aload_n hC 0 d_MS_answer_10 rfl rfl ?_
  refine wi_iconst hC 1 (by decide) d_MS_answer_11 ?_
  refine wp_MS_answered hC true rfl wd_826 d_MS_answer_12 ?_
  refine wi_nmM (fun s3 e_s3 => ?_)
  have hf : f_MS_answer τ a1 a2 = s3 := by subst e_s3; subst e_s2; subst e_s1; exact rfl
  exact wi_vret hC hr hk d_MS_answer_15 rfl (congrArg (fun z => (σ, z, q)) hf).symm hQ
theorem k_MS_answer {p : Program} {l : Launch} {e : Env} {R : Room} {s : State} {m : MethodId} {args : Array Value} {below : List Frame} {meth : Method} {c : Code} {Q : State → Prop} {E : Ev} {nL pc index : Nat} {lv : List (Nat × Value)} {rest : List Value} {cc : ByteArray} {own : String} {σ τ : St} {q : Int64} {a1 : Int32} {a2 : Int64} (hC : Cx p s m args c cc nL own E)   (hl : Cond.methodLink own index y_MS_answer ∈ WL) (hR : 0 + 1 ≤ R.frames ∧ 8 + (4 + 11) + 0 ≤ R.locals) (hs8 : (rest.map fun v => v.category).sum ≤ 8) (d : decode cc pc = .ok (.invokevirtual index, 3)) (k : WS p l e R s m args below meth c Q E nL (pc + 3) lv rest (σ, (f_MS_answer τ a1 a2), q)) : WS p l e R s m args below meth c Q E nL pc lv (.long a2 :: .int a1 :: .ref 42 :: rest) (σ, τ, q) := by
  exact wi_callV hC (n := 2) (vs := [.int a1, .long a2]) (rest := rest) 42 12 (by decide) rfl rfl rfl (c_MS_answer l E σ τ q a1 a2 ) (by decide +kernel) wd_849 wd_809 wd_850 wd_851 ⟨rfl, rfl⟩ rfl rfl hl hR hs8 d k
set_option maxRecDepth 100000 in
set_option maxHeartbeats 400000 in
theorem c_MS_goesOn_n (l : Launch) (E : Ev) (σ τ : St) (q : Int64) (a1 : Int32) (a3 : Bool) (hp : vp_in a1 8) : MF l y_MS_goesOn prog_15_method_20_code 7 (some .boolean) { frames := 2, cells := 0, slots := 0, locals := 42 } E [.ref 42, .int a1, .int (-1), .int (bI a3)] (σ, τ, q) (some (.int (bI ((f_MS_goesOn_n τ a1 a3).1)))) (σ, (f_MS_goesOn_n τ a1 a3).2, q) := by
  refine MF_intro (lv0 := [(0, .ref 42), (1, .int a1), (2, .int (-1)), (3, .int (bI a3))]) (by decide) wd_856 (Nat.le_of_ble_eq_true rfl) rfl ?_
  intro p e s m args below meth c Q hC hr hk hQ
  replace hC : Cx p s m args c prog_15_method_20_code 7 "PartnerStackModel$RealStepsModel" E := hC
  refine wi_aload_n hC 0 d_MS_goesOn_0 rfl rfl ?_
  refine wi_iload_n hC 1 d_MS_goesOn_1 rfl rfl ?_
  refine k_MS_kind hC hp wd_852 (by decide) (Nat.le_of_ble_eq_true rfl) d_MS_goesOn_2 ?_
  refine wi_iconst hC 5 (by decide) d_MS_goesOn_5 ?_
  obtain ⟨Tt1, eTt1⟩ : ∃ y : Bool, y = (
          if f_MS_kind τ a1 = 5 then
            true
          else
            false) := ⟨_, rfl⟩
  have Jt1 : ∀ (t1 : Bool), Tt1 = t1 → WS p l e { frames := 2, cells := 0, slots := 0, locals := 42 } s m args below meth c Q E 7 14 [(0, .ref 42), (1, .int a1), (2, .int (-1)), (3, .int (bI a3))] [.int (bI t1)] (σ, τ, q) := by
    intro t1  e_t1
    rw [eTt1] at e_t1
    refine wi_istore hC [(4, .int (bI t1)), (0, .ref 42), (1, .int a1), (2, .int (-1)), (3, .int (bI a3))] d_MS_goesOn_14 (by decide) rfl ?_
    refine wi_iload_n hC 3 d_MS_goesOn_16 rfl rfl ?_
    refine wi_if_lt hC 33 d_MS_goesOn_17 (by decide) (fun _ => ?_) (fun h2 => absurd (by decide) h2)
    refine wi_iconst hC 0 (by decide) d_MS_goesOn_33 ?_
    refine wi_istore hC [(5, .int 0), (4, .int (bI t1)), (0, .ref 42), (1, .int a1), (2, .int (-1)), (3, .int (bI a3))] d_MS_goesOn_34 (by decide) rfl ?_
    refine wi_iload hC 1 d_MS_goesOn_36 rfl ?_
    refine wi_z_ne (b := t1) hC 46 d_MS_goesOn_38 (by decide) (fun h3 => ?_) (fun h3 => ?_)
    · skip
      refine wi_iload hC 1 d_MS_goesOn_46 rfl ?_
      refine wi_z_ne (b := t1) hC 55 d_MS_goesOn_48 (by decide) (fun _ => ?_) (fun h4 => absurd h3 h4)
      refine wi_iconst hC 0 (by decide) d_MS_goesOn_55 ?_
      refine wi_istore hC [(6, .int 0), (5, .int 0), (4, .int (bI t1)), (0, .ref 42), (1, .int a1), (2, .int (-1)), (3, .int (bI a3))] d_MS_goesOn_56 (by decide) rfl ?_
      refine wi_iload hC 2 d_MS_goesOn_58 rfl ?_
      refine wi_z_eq (b := t1) hC 125 d_MS_goesOn_60 (by decide) (fun h5 => absurd h3 h5) (fun _ => ?_)
      refine wi_iload hC 1 d_MS_goesOn_63 rfl ?_
      refine wi_if_eq hC 125 d_MS_goesOn_65 (by decide) (fun _ => ?_) (fun h6 => absurd (by decide) h6)
      refine wi_aload_n hC 3 d_MS_goesOn_125 rfl rfl ?_
      refine wi_iconst hC 1 (by decide) d_MS_goesOn_126 ?_
      refine k_MS_tell hC (by decide) wd_853 (by decide) (Nat.le_of_ble_eq_true rfl) d_MS_goesOn_127 ?_
      obtain ⟨r1, e_r1⟩ : ∃ y : Bool × St, f_MS_tell τ 1 = y := ⟨_, rfl⟩
      rw [e_r1]
      obtain ⟨Tt2, eTt2⟩ : ∃ y : St, y = (
              if r1.1 = true then
                let s1 : St := f_MS_answer r1.2 (gI r1.2 110 (jat a1)) (gJ r1.2 111 (jat a1))
                s1
              else
                r1.2) := ⟨_, rfl⟩
      have Jt2 : ∀ (t2 : St), Tt2 = t2 → WS p l e { frames := 2, cells := 0, slots := 0, locals := 42 } s m args below meth c Q E 7 167 [(6, .int 0), (5, .int 0), (4, .int (bI t1)), (0, .ref 42), (1, .int a1), (2, .int (-1)), (3, .int (bI a3))] [] (σ, t2, q) := by
        intro t2  e_t2
        rw [eTt2] at e_t2
        refine wi_iconst hC 0 (by decide) d_MS_goesOn_167 ?_
        have hf : f_MS_goesOn_n τ a1 a3 = (false, t2) := by subst e_t2; subst e_r1; subst e_t1; exact (if_pos h3)
        exact wi_zret hC hr hk d_MS_goesOn_168 rfl (congrArg (fun z => some (Value.int (bI z.1))) hf) (congrArg (fun z => (σ, z.2, q)) hf).symm hQ
      refine wi_z_eq (b := r1.1) hC 167 d_MS_goesOn_130 (by decide) (fun h7 => ?_) (fun h7 => ?_)
      · skip
        exact Jt2 r1.2 (by exact (Eq.trans eTt2 (if_neg h7)))
      · skip
        refine wi_aload_n hC 3 d_MS_goesOn_133 rfl rfl ?_
        refine wi_aload_n hC 3 d_MS_goesOn_134 rfl rfl ?_
        refine wg_MS_top hC wd_815 d_MS_goesOn_135 ?_
        refine wi_iload hC 0 d_MS_goesOn_138 rfl ?_
        refine wi_if_eq hC 147 d_MS_goesOn_140 (by decide) (fun _ => ?_) (fun h8 => absurd (by decide) h8)
        refine wi_iload_n hC 4 d_MS_goesOn_147 rfl rfl ?_
        refine wa_ld43 hC hp d_MS_goesOn_148 ?_
        refine wi_aload_n hC 3 d_MS_goesOn_149 rfl rfl ?_
        refine wg_MS_fraction hC wd_816 d_MS_goesOn_150 ?_
        refine wi_iload hC 0 d_MS_goesOn_153 rfl ?_
        refine wi_if_eq hC 162 d_MS_goesOn_155 (by decide) (fun _ => ?_) (fun h9 => absurd (by decide) h9)
        refine wi_iload_n hC 4 d_MS_goesOn_162 rfl rfl ?_
        refine wa_ld44 hC hp d_MS_goesOn_163 ?_
        refine k_MS_answer hC  wd_854 (by decide) (Nat.le_of_ble_eq_true rfl) d_MS_goesOn_164 ?_
        refine wi_nmM (fun s1 e_s1 => ?_)
        exact Jt2 s1 (by subst e_s1; exact (Eq.trans eTt2 (if_pos h7)))
    · skip
      refine wi_iload hC 0 d_MS_goesOn_41 rfl ?_
      refine wi_if_eq hC 169 d_MS_goesOn_43 (by decide) (fun _ => ?_) (fun h10 => absurd (by decide) h10)
      refine wi_iload_n hC 5 d_MS_goesOn_169 rfl rfl ?_
      refine wi_z_ne (b := a3) hC 192 d_MS_goesOn_170 (by decide) (fun h11 => ?_) (fun h11 => ?_)
      · skip
        refine wi_aload_n hC 2 d_MS_goesOn_192 rfl rfl ?_
        refine wi_iload_n hC 3 d_MS_goesOn_193 rfl rfl ?_
        refine k_MS_kind hC hp wd_852 (by decide) (Nat.le_of_ble_eq_true rfl) d_MS_goesOn_194 ?_
        refine wi_iconst hC 1 (by decide) d_MS_goesOn_197 ?_
        obtain ⟨Tt3, eTt3⟩ : ∃ y : Bool, y = (
                if f_MS_kind τ a1 = 1 then
                  true
                else
                  false) := ⟨_, rfl⟩
        have Jt3 : ∀ (t3 : Bool), Tt3 = t3 → WS p l e { frames := 2, cells := 0, slots := 0, locals := 42 } s m args below meth c Q E 7 219 [(5, .int 0), (4, .int (bI t1)), (0, .ref 42), (1, .int a1), (2, .int (-1)), (3, .int (bI a3))] [.int (bI t3)] (σ, τ, q) := by
          intro t3  e_t3
          rw [eTt3] at e_t3
          refine wi_istore hC [(6, .int (bI t3)), (5, .int 0), (4, .int (bI t1)), (0, .ref 42), (1, .int a1), (2, .int (-1)), (3, .int (bI a3))] d_MS_goesOn_219 (by decide) rfl ?_
          refine wi_iload hC 0 d_MS_goesOn_221 rfl ?_
          obtain ⟨Tt4, eTt4⟩ : ∃ y : Bool × St, y = (
                  if t3 = true then
                    let r2 : Bool × St := f_MS_tell τ 2
                    if r2.1 = true then
                      (true, r2.2)
                    else
                      (false, r2.2)
                  else
                    (true, τ)) := ⟨_, rfl⟩
          have Jt4 : ∀ (t4 : Bool × St), Tt4 = t4 → WS p l e { frames := 2, cells := 0, slots := 0, locals := 42 } s m args below meth c Q E 7 239 [(6, .int (bI t3)), (5, .int 0), (4, .int (bI t1)), (0, .ref 42), (1, .int a1), (2, .int (-1)), (3, .int (bI a3))] [.int (bI t4.1)] (σ, t4.2, q) := by
            intro t4  e_t4
            rw [eTt4] at e_t4
            have hf : f_MS_goesOn_n τ a1 a3 = (t4.1, t4.2) := by subst e_t4; subst e_t3; subst e_t1; exact (Eq.trans (if_neg h3) (if_pos h11))
            exact wi_zret hC hr hk d_MS_goesOn_239 rfl (congrArg (fun z => some (Value.int (bI z.1))) hf) (congrArg (fun z => (σ, z.2, q)) hf).symm hQ
          refine wi_z_eq (b := t3) hC 234 d_MS_goesOn_223 (by decide) (fun h14 => ?_) (fun h14 => ?_)
          · skip
            refine wi_iconst hC 1 (by decide) d_MS_goesOn_234 ?_
            refine wi_goto hC 239 d_MS_goesOn_235 (by decide) ?_
            exact Jt4 (true, τ) (by exact (Eq.trans eTt4 (if_neg h14)))
          · skip
            refine wi_aload_n hC 3 d_MS_goesOn_226 rfl rfl ?_
            refine wi_iconst hC 2 (by decide) d_MS_goesOn_227 ?_
            refine k_MS_tell hC (by decide) wd_853 (by decide) (Nat.le_of_ble_eq_true rfl) d_MS_goesOn_228 ?_
            obtain ⟨r2, e_r2⟩ : ∃ y : Bool × St, f_MS_tell τ 2 = y := ⟨_, rfl⟩
            rw [e_r2]
            refine wi_z_eq (b := r2.1) hC 238 d_MS_goesOn_231 (by decide) (fun h15 => ?_) (fun h15 => ?_)
            · skip
              refine wi_iconst hC 0 (by decide) d_MS_goesOn_238 ?_
              exact Jt4 (false, r2.2) (by subst e_r2; exact (Eq.trans eTt4 (Eq.trans (if_pos h14) (if_neg h15))))
            · skip
              refine wi_iconst hC 1 (by decide) d_MS_goesOn_234 ?_
              refine wi_goto hC 239 d_MS_goesOn_235 (by decide) ?_
              exact Jt4 (true, r2.2) (by subst e_r2; exact (Eq.trans eTt4 (Eq.trans (if_pos h14) (if_pos h15))))
        refine wi_icmp_eq hC 214 d_MS_goesOn_198 (by decide) (fun h12 => ?_) (fun h12 => ?_)
        · skip
          refine wi_iconst hC 1 (by decide) d_MS_goesOn_214 ?_
          refine wi_goto hC 219 d_MS_goesOn_215 (by decide) ?_
          exact Jt3 true (by exact (Eq.trans eTt3 (if_pos h12)))
        · skip
          refine wi_iload_n hC 4 d_MS_goesOn_201 rfl rfl ?_
          refine wi_if_lt hC 218 d_MS_goesOn_202 (by decide) (fun _ => ?_) (fun h13 => absurd (by decide) h13)
          refine wi_iconst hC 0 (by decide) d_MS_goesOn_218 ?_
          exact Jt3 false (by exact (Eq.trans eTt3 (if_neg h12)))
      · skip
        refine wi_aload_n hC 2 d_MS_goesOn_173 rfl rfl ?_
        refine wi_iconst hC 1 (by decide) d_MS_goesOn_174 ?_
        refine k_MS_tell hC (by decide) wd_853 (by decide) (Nat.le_of_ble_eq_true rfl) d_MS_goesOn_175 ?_
        obtain ⟨r3, e_r3⟩ : ∃ y : Bool × St, f_MS_tell τ 1 = y := ⟨_, rfl⟩
        rw [e_r3]
        obtain ⟨Tt5, eTt5⟩ : ∃ y : St, y = (
                if r3.1 = true then
                  let s2 : St := f_MS_answer r3.2 65535 (-4611686018427387904)
                  s2
                else
                  r3.2) := ⟨_, rfl⟩
        have Jt5 : ∀ (t5 : St), Tt5 = t5 → WS p l e { frames := 2, cells := 0, slots := 0, locals := 42 } s m args below meth c Q E 7 190 [(5, .int 0), (4, .int (bI t1)), (0, .ref 42), (1, .int a1), (2, .int (-1)), (3, .int (bI a3))] [] (σ, t5, q) := by
          intro t5  e_t5
          rw [eTt5] at e_t5
          refine wi_iconst hC 0 (by decide) d_MS_goesOn_190 ?_
          have hf : f_MS_goesOn_n τ a1 a3 = (false, t5) := by subst e_t5; subst e_r3; subst e_t1; exact (Eq.trans (if_neg h3) (if_neg h11))
          exact wi_zret hC hr hk d_MS_goesOn_191 rfl (congrArg (fun z => some (Value.int (bI z.1))) hf) (congrArg (fun z => (σ, z.2, q)) hf).symm hQ
        refine wi_z_eq (b := r3.1) hC 190 d_MS_goesOn_178 (by decide) (fun h16 => ?_) (fun h16 => ?_)
        · skip
          exact Jt5 r3.2 (by exact (Eq.trans eTt5 (if_neg h16)))
        · skip
          refine wi_aload_n hC 2 d_MS_goesOn_181 rfl rfl ?_
          refine wi_ldc hC wd_805 d_MS_goesOn_182 ?_
          refine wi_ldc2 hC wd_855 d_MS_goesOn_184 ?_
          refine k_MS_answer hC  wd_854 (by decide) (Nat.le_of_ble_eq_true rfl) d_MS_goesOn_187 ?_
          refine wi_nmM (fun s2 e_s2 => ?_)
          exact Jt5 s2 (by subst e_s2; exact (Eq.trans eTt5 (if_pos h16)))
  refine wi_icmp_ne hC 13 d_MS_goesOn_6 (by decide) (fun h1 => ?_) (fun h1 => ?_)
  · skip
    refine wi_iconst hC 0 (by decide) d_MS_goesOn_13 ?_
    exact Jt1 false (by exact (Eq.trans eTt1 (if_neg h1)))
  · skip
    refine wi_iconst hC 1 (by decide) d_MS_goesOn_9 ?_
    refine wi_goto hC 14 d_MS_goesOn_10 (by decide) ?_
    exact Jt1 true (by exact (Eq.trans eTt1 (if_pos h1)))
theorem k_MS_goesOn_n {p : Program} {l : Launch} {e : Env} {R : Room} {s : State} {m : MethodId} {args : Array Value} {below : List Frame} {meth : Method} {c : Code} {Q : State → Prop} {E : Ev} {nL pc index : Nat} {lv : List (Nat × Value)} {rest : List Value} {cc : ByteArray} {own : String} {σ τ : St} {q : Int64} {a1 : Int32} (hC : Cx p s m args c cc nL own E) {x_a3 : Int32} (a3 : Bool) (hx_a3 : x_a3 = bI a3) (hp : vp_in a1 8) (hl : Cond.methodLink own index y_MS_goesOn ∈ WL) (hR : 2 + 1 ≤ R.frames ∧ 8 + (7 + 11) + 42 ≤ R.locals) (hs8 : (rest.map fun v => v.category).sum ≤ 8) (d : decode cc pc = .ok (.invokevirtual index, 3)) (k : WS p l e R s m args below meth c Q E nL (pc + 3) lv ((.int (bI ((f_MS_goesOn_n τ a1 a3).1))) :: rest) (σ, (f_MS_goesOn_n τ a1 a3).2, q)) : WS p l e R s m args below meth c Q E nL pc lv (.int x_a3 :: .int (-1) :: .int a1 :: .ref 42 :: rest) (σ, τ, q) := by
  subst hx_a3
  exact wi_callV hC (n := 3) (vs := [.int a1, .int (-1), .int (bI a3)]) (rest := rest) 42 12 (by decide) rfl rfl rfl (c_MS_goesOn_n l E σ τ q a1 a3 hp) (by decide +kernel) wd_856 wd_809 wd_857 wd_858 ⟨rfl, rfl⟩ rfl rfl hl hR hs8 d k
set_option maxRecDepth 100000 in
set_option maxHeartbeats 400000 in
theorem c_MS_goesOn (l : Launch) (E : Ev) (σ τ : St) (q : Int64) (a1 : Int32) (a2 : Int32) (a3 : Bool) (hp : vp_in a1 8) (hq : vp_in a2 8) : MF l y_MS_goesOn prog_15_method_20_code 7 (some .boolean) { frames := 2, cells := 0, slots := 0, locals := 42 } E [.ref 42, .int a1, .int a2, .int (bI a3)] (σ, τ, q) (some (.int (bI ((f_MS_goesOn τ a1 a2 a3).1)))) (σ, (f_MS_goesOn τ a1 a2 a3).2, q) := by
  refine MF_intro (lv0 := [(0, .ref 42), (1, .int a1), (2, .int a2), (3, .int (bI a3))]) (by decide) wd_856 (Nat.le_of_ble_eq_true rfl) rfl ?_
  intro p e s m args below meth c Q hC hr hk hQ
  replace hC : Cx p s m args c prog_15_method_20_code 7 "PartnerStackModel$RealStepsModel" E := hC
  refine wi_aload_n hC 0 d_MS_goesOn_0 rfl rfl ?_
  refine wi_iload_n hC 1 d_MS_goesOn_1 rfl rfl ?_
  refine k_MS_kind hC hp wd_852 (by decide) (Nat.le_of_ble_eq_true rfl) d_MS_goesOn_2 ?_
  refine wi_iconst hC 5 (by decide) d_MS_goesOn_5 ?_
  obtain ⟨Tt1, eTt1⟩ : ∃ y : Bool, y = (
          if f_MS_kind τ a1 = 5 then
            true
          else
            false) := ⟨_, rfl⟩
  have Jt1 : ∀ (t1 : Bool), Tt1 = t1 → WS p l e { frames := 2, cells := 0, slots := 0, locals := 42 } s m args below meth c Q E 7 14 [(0, .ref 42), (1, .int a1), (2, .int a2), (3, .int (bI a3))] [.int (bI t1)] (σ, τ, q) := by
    intro t1  e_t1
    rw [eTt1] at e_t1
    refine wi_istore hC [(4, .int (bI t1)), (0, .ref 42), (1, .int a1), (2, .int a2), (3, .int (bI a3))] d_MS_goesOn_14 (by decide) rfl ?_
    refine wi_iload_n hC 3 d_MS_goesOn_16 rfl rfl ?_
    obtain ⟨Tt2, eTt2⟩ : ∃ y : Bool, y = (
            if a2 < 0 then
              false
            else
              if f_MS_kind τ a2 = 5 then
                true
              else
                false) := ⟨_, rfl⟩
    have Jt2 : ∀ (t2 : Bool), Tt2 = t2 → WS p l e { frames := 2, cells := 0, slots := 0, locals := 42 } s m args below meth c Q E 7 34 [(4, .int (bI t1)), (0, .ref 42), (1, .int a1), (2, .int a2), (3, .int (bI a3))] [.int (bI t2)] (σ, τ, q) := by
      intro t2  e_t2
      rw [eTt2] at e_t2
      refine wi_istore hC [(5, .int (bI t2)), (4, .int (bI t1)), (0, .ref 42), (1, .int a1), (2, .int a2), (3, .int (bI a3))] d_MS_goesOn_34 (by decide) rfl ?_
      refine wi_iload hC 1 d_MS_goesOn_36 rfl ?_
      have B1 : f_MS_goesOn τ a1 a2 a3 = f_MS_goesOn_b46 τ a1 a2 t1 t2 → WS p l e { frames := 2, cells := 0, slots := 0, locals := 42 } s m args below meth c Q E 7 46 [(5, .int (bI t2)), (4, .int (bI t1)), (0, .ref 42), (1, .int a1), (2, .int a2), (3, .int (bI a3))] [] (σ, τ, q) := by
        intro hB1
        refine wi_iload hC 1 d_MS_goesOn_46 rfl ?_
        obtain ⟨Tt6, eTt6⟩ : ∃ y : Bool, y = (
                if t1 = true then
                  false
                else
                  true) := ⟨_, rfl⟩
        have Jt6 : ∀ (t6 : Bool), Tt6 = t6 → WS p l e { frames := 2, cells := 0, slots := 0, locals := 42 } s m args below meth c Q E 7 56 [(5, .int (bI t2)), (4, .int (bI t1)), (0, .ref 42), (1, .int a1), (2, .int a2), (3, .int (bI a3))] [.int (bI t6)] (σ, τ, q) := by
          intro t6  e_t6
          rw [eTt6] at e_t6
          refine wi_istore hC [(6, .int (bI t6)), (5, .int (bI t2)), (4, .int (bI t1)), (0, .ref 42), (1, .int a1), (2, .int a2), (3, .int (bI a3))] d_MS_goesOn_56 (by decide) rfl ?_
          refine wi_iload hC 2 d_MS_goesOn_58 rfl ?_
          obtain ⟨Tt7, eTt7⟩ : ∃ y : Bool, y = (
                  if t1 = true then
                    if t2 = true then
                      let t8 : Bool := 
                          if f_MS_lessSize (gJ τ 111 (jat a1)) (gJ τ 111 (jat a2)) = true then
                            true
                          else
                            if gJ τ 111 (jat a1) = gJ τ 111 (jat a2) then
                              if f_MS_minus τ a1 = true then
                                if f_MS_minus τ a2 = true then
                                  false
                                else
                                  true
                              else
                                false
                            else
                              false
                      t8
                    else
                      t6
                  else
                    t6) := ⟨_, rfl⟩
          have Jt7 : ∀ (t7 : Bool), Tt7 = t7 → WS p l e { frames := 2, cells := 0, slots := 0, locals := 42 } s m args below meth c Q E 7 125 [(6, .int (bI t7)), (5, .int (bI t2)), (4, .int (bI t1)), (0, .ref 42), (1, .int a1), (2, .int a2), (3, .int (bI a3))] [] (σ, τ, q) := by
            intro t7  e_t7
            rw [eTt7] at e_t7
            refine wi_aload_n hC 3 d_MS_goesOn_125 rfl rfl ?_
            refine wi_iconst hC 1 (by decide) d_MS_goesOn_126 ?_
            refine k_MS_tell hC (by decide) wd_853 (by decide) (Nat.le_of_ble_eq_true rfl) d_MS_goesOn_127 ?_
            obtain ⟨r3, e_r3⟩ : ∃ y : Bool × St, f_MS_tell τ 1 = y := ⟨_, rfl⟩
            rw [e_r3]
            obtain ⟨Tt9, eTt9⟩ : ∃ y : St, y = (
                    if r3.1 = true then
                      let t10 : Int32 := 
                          if t7 = true then
                            a2
                          else
                            a1
                      let t11 : Int32 := 
                          if t7 = true then
                            a2
                          else
                            a1
                      let s2 : St := f_MS_answer r3.2 (gI r3.2 110 (jat t10)) (gJ r3.2 111 (jat t11))
                      s2
                    else
                      r3.2) := ⟨_, rfl⟩
            have Jt9 : ∀ (t9 : St), Tt9 = t9 → WS p l e { frames := 2, cells := 0, slots := 0, locals := 42 } s m args below meth c Q E 7 167 [(6, .int (bI t7)), (5, .int (bI t2)), (4, .int (bI t1)), (0, .ref 42), (1, .int a1), (2, .int a2), (3, .int (bI a3))] [] (σ, t9, q) := by
              intro t9  e_t9
              rw [eTt9] at e_t9
              refine wi_iconst hC 0 (by decide) d_MS_goesOn_167 ?_
              have hf : f_MS_goesOn τ a1 a2 a3 = (false, t9) := by subst e_t9; subst e_r3; subst e_t7; subst e_t6; exact hB1
              exact wi_zret hC hr hk d_MS_goesOn_168 rfl (congrArg (fun z => some (Value.int (bI z.1))) hf) (congrArg (fun z => (σ, z.2, q)) hf).symm hQ
            refine wi_z_eq (b := r3.1) hC 167 d_MS_goesOn_130 (by decide) (fun h20 => ?_) (fun h20 => ?_)
            · skip
              exact Jt9 r3.2 (by exact (Eq.trans eTt9 (if_neg h20)))
            · skip
              refine wi_aload_n hC 3 d_MS_goesOn_133 rfl rfl ?_
              refine wi_aload_n hC 3 d_MS_goesOn_134 rfl rfl ?_
              refine wg_MS_top hC wd_815 d_MS_goesOn_135 ?_
              refine wi_iload hC 0 d_MS_goesOn_138 rfl ?_
              obtain ⟨Tt10, eTt10⟩ : ∃ y : Int32, y = (
                      if t7 = true then
                        a2
                      else
                        a1) := ⟨_, rfl⟩
              have Jt10 : ∀ (t10 : Int32), Tt10 = t10 → WS p l e { frames := 2, cells := 0, slots := 0, locals := 42 } s m args below meth c Q E 7 148 [(6, .int (bI t7)), (5, .int (bI t2)), (4, .int (bI t1)), (0, .ref 42), (1, .int a1), (2, .int a2), (3, .int (bI a3))] [.int t10, .ref 43, .ref 42] (σ, r3.2, q) := by
                intro t10  e_t10
                rw [eTt10] at e_t10
                refine wa_ld43 hC (by rw [← e_t10]; (repeat' split) <;> first | exact hp | exact hq) d_MS_goesOn_148 ?_
                refine wi_aload_n hC 3 d_MS_goesOn_149 rfl rfl ?_
                refine wg_MS_fraction hC wd_816 d_MS_goesOn_150 ?_
                refine wi_iload hC 0 d_MS_goesOn_153 rfl ?_
                obtain ⟨Tt11, eTt11⟩ : ∃ y : Int32, y = (
                        if t7 = true then
                          a2
                        else
                          a1) := ⟨_, rfl⟩
                have Jt11 : ∀ (t11 : Int32), Tt11 = t11 → WS p l e { frames := 2, cells := 0, slots := 0, locals := 42 } s m args below meth c Q E 7 163 [(6, .int (bI t7)), (5, .int (bI t2)), (4, .int (bI t1)), (0, .ref 42), (1, .int a1), (2, .int a2), (3, .int (bI a3))] [.int t11, .ref 44, .int (gI r3.2 110 (jat t10)), .ref 42] (σ, r3.2, q) := by
                  intro t11  e_t11
                  rw [eTt11] at e_t11
                  refine wa_ld44 hC (by rw [← e_t11]; (repeat' split) <;> first | exact hp | exact hq) d_MS_goesOn_163 ?_
                  refine k_MS_answer hC  wd_854 (by decide) (Nat.le_of_ble_eq_true rfl) d_MS_goesOn_164 ?_
                  refine wi_nmM (fun s2 e_s2 => ?_)
                  exact Jt9 s2 (by subst e_s2; subst e_t11; subst e_t10; exact (Eq.trans eTt9 (if_pos h20)))
                refine wi_z_eq (b := t7) hC 162 d_MS_goesOn_155 (by decide) (fun h22 => ?_) (fun h22 => ?_)
                · skip
                  refine wi_iload_n hC 4 d_MS_goesOn_162 rfl rfl ?_
                  exact Jt11 a1 (by exact (Eq.trans eTt11 (if_neg h22)))
                · skip
                  refine wi_iload_n hC 5 d_MS_goesOn_158 rfl rfl ?_
                  refine wi_goto hC 163 d_MS_goesOn_159 (by decide) ?_
                  exact Jt11 a2 (by exact (Eq.trans eTt11 (if_pos h22)))
              refine wi_z_eq (b := t7) hC 147 d_MS_goesOn_140 (by decide) (fun h21 => ?_) (fun h21 => ?_)
              · skip
                refine wi_iload_n hC 4 d_MS_goesOn_147 rfl rfl ?_
                exact Jt10 a1 (by exact (Eq.trans eTt10 (if_neg h21)))
              · skip
                refine wi_iload_n hC 5 d_MS_goesOn_143 rfl rfl ?_
                refine wi_goto hC 148 d_MS_goesOn_144 (by decide) ?_
                exact Jt10 a2 (by exact (Eq.trans eTt10 (if_pos h21)))
          refine wi_z_eq (b := t1) hC 125 d_MS_goesOn_60 (by decide) (fun h14 => ?_) (fun h14 => ?_)
          · skip
            exact Jt7 t6 (by exact (Eq.trans eTt7 (if_neg h14)))
          · skip
            refine wi_iload hC 1 d_MS_goesOn_63 rfl ?_
            refine wi_z_eq (b := t2) hC 125 d_MS_goesOn_65 (by decide) (fun h15 => ?_) (fun h15 => ?_)
            · skip
              exact Jt7 t6 (by exact (Eq.trans eTt7 (Eq.trans (if_pos h14) (if_neg h15))))
            · skip
              refine wi_aload_n hC 3 d_MS_goesOn_68 rfl rfl ?_
              refine wg_MS_fraction hC wd_816 d_MS_goesOn_69 ?_
              refine wi_iload_n hC 4 d_MS_goesOn_72 rfl rfl ?_
              refine wa_ld44 hC hp d_MS_goesOn_73 ?_
              refine wi_aload_n hC 3 d_MS_goesOn_74 rfl rfl ?_
              refine wg_MS_fraction hC wd_816 d_MS_goesOn_75 ?_
              refine wi_iload_n hC 5 d_MS_goesOn_78 rfl rfl ?_
              refine wa_ld44 hC hq d_MS_goesOn_79 ?_
              refine k_MS_lessSize hC  wd_859 (by decide) (Nat.le_of_ble_eq_true rfl) d_MS_goesOn_80 ?_
              obtain ⟨Tt8, eTt8⟩ : ∃ y : Bool, y = (
                      if f_MS_lessSize (gJ τ 111 (jat a1)) (gJ τ 111 (jat a2)) = true then
                        true
                      else
                        if gJ τ 111 (jat a1) = gJ τ 111 (jat a2) then
                          if f_MS_minus τ a1 = true then
                            if f_MS_minus τ a2 = true then
                              false
                            else
                              true
                          else
                            false
                        else
                          false) := ⟨_, rfl⟩
              have Jt8 : ∀ (t8 : Bool), Tt8 = t8 → WS p l e { frames := 2, cells := 0, slots := 0, locals := 42 } s m args below meth c Q E 7 123 [(6, .int (bI t6)), (5, .int (bI t2)), (4, .int (bI t1)), (0, .ref 42), (1, .int a1), (2, .int a2), (3, .int (bI a3))] [.int (bI t8)] (σ, τ, q) := by
                intro t8  e_t8
                rw [eTt8] at e_t8
                refine wi_istore hC [(6, .int (bI t8)), (5, .int (bI t2)), (4, .int (bI t1)), (0, .ref 42), (1, .int a1), (2, .int a2), (3, .int (bI a3))] d_MS_goesOn_123 (by decide) rfl ?_
                exact Jt7 t8 (by subst e_t8; exact (Eq.trans eTt7 (Eq.trans (if_pos h14) (if_pos h15))))
              refine wi_z_ne (b := (f_MS_lessSize (gJ τ 111 (jat a1)) (gJ τ 111 (jat a2)))) hC 118 d_MS_goesOn_83 (by decide) (fun h16 => ?_) (fun h16 => ?_)
              · skip
                refine wi_iconst hC 1 (by decide) d_MS_goesOn_118 ?_
                refine wi_goto hC 123 d_MS_goesOn_119 (by decide) ?_
                exact Jt8 true (by exact (Eq.trans eTt8 (if_pos h16)))
              · skip
                refine wi_aload_n hC 3 d_MS_goesOn_86 rfl rfl ?_
                refine wg_MS_fraction hC wd_816 d_MS_goesOn_87 ?_
                refine wi_iload_n hC 4 d_MS_goesOn_90 rfl rfl ?_
                refine wa_ld44 hC hp d_MS_goesOn_91 ?_
                refine wi_aload_n hC 3 d_MS_goesOn_92 rfl rfl ?_
                refine wg_MS_fraction hC wd_816 d_MS_goesOn_93 ?_
                refine wi_iload_n hC 5 d_MS_goesOn_96 rfl rfl ?_
                refine wa_ld44 hC hq d_MS_goesOn_97 ?_
                refine wi_lcmp_ne hC 122 d_MS_goesOn_98 d_MS_goesOn_99 (by decide) (fun h17 => ?_) (fun h17 => ?_)
                · skip
                  refine wi_iconst hC 0 (by decide) d_MS_goesOn_122 ?_
                  exact Jt8 false (by exact (Eq.trans eTt8 (Eq.trans (if_neg h16) (if_neg h17))))
                · skip
                  refine wi_aload_n hC 3 d_MS_goesOn_102 rfl rfl ?_
                  refine wi_iload_n hC 4 d_MS_goesOn_103 rfl rfl ?_
                  refine k_MS_minus hC hp wd_860 (by decide) (Nat.le_of_ble_eq_true rfl) d_MS_goesOn_104 ?_
                  refine wi_z_eq (b := (f_MS_minus τ a1)) hC 122 d_MS_goesOn_107 (by decide) (fun h18 => ?_) (fun h18 => ?_)
                  · skip
                    refine wi_iconst hC 0 (by decide) d_MS_goesOn_122 ?_
                    exact Jt8 false (by exact (Eq.trans eTt8 (Eq.trans (if_neg h16) (Eq.trans (if_pos h17) (if_neg h18)))))
                  · skip
                    refine wi_aload_n hC 3 d_MS_goesOn_110 rfl rfl ?_
                    refine wi_iload_n hC 5 d_MS_goesOn_111 rfl rfl ?_
                    refine k_MS_minus hC hq wd_860 (by decide) (Nat.le_of_ble_eq_true rfl) d_MS_goesOn_112 ?_
                    refine wi_z_ne (b := (f_MS_minus τ a2)) hC 122 d_MS_goesOn_115 (by decide) (fun h19 => ?_) (fun h19 => ?_)
                    · skip
                      refine wi_iconst hC 0 (by decide) d_MS_goesOn_122 ?_
                      exact Jt8 false (by exact (Eq.trans eTt8 (Eq.trans (if_neg h16) (Eq.trans (if_pos h17) (Eq.trans (if_pos h18) (if_pos h19))))))
                    · skip
                      refine wi_iconst hC 1 (by decide) d_MS_goesOn_118 ?_
                      refine wi_goto hC 123 d_MS_goesOn_119 (by decide) ?_
                      exact Jt8 true (by exact (Eq.trans eTt8 (Eq.trans (if_neg h16) (Eq.trans (if_pos h17) (Eq.trans (if_pos h18) (if_neg h19))))))
        refine wi_z_ne (b := t1) hC 55 d_MS_goesOn_48 (by decide) (fun h13 => ?_) (fun h13 => ?_)
        · skip
          refine wi_iconst hC 0 (by decide) d_MS_goesOn_55 ?_
          exact Jt6 false (by exact (Eq.trans eTt6 (if_pos h13)))
        · skip
          refine wi_iconst hC 1 (by decide) d_MS_goesOn_51 ?_
          refine wi_goto hC 56 d_MS_goesOn_52 (by decide) ?_
          exact Jt6 true (by exact (Eq.trans eTt6 (if_neg h13)))
      refine wi_z_ne (b := t1) hC 46 d_MS_goesOn_38 (by decide) (fun h4 => ?_) (fun h4 => ?_)
      · skip
        exact B1   (by subst e_t2; subst e_t1; exact (if_pos h4))
      · skip
        refine wi_iload hC 0 d_MS_goesOn_41 rfl ?_
        refine wi_z_eq (b := t2) hC 169 d_MS_goesOn_43 (by decide) (fun h5 => ?_) (fun h5 => ?_)
        · skip
          refine wi_iload_n hC 5 d_MS_goesOn_169 rfl rfl ?_
          refine wi_z_ne (b := a3) hC 192 d_MS_goesOn_170 (by decide) (fun h6 => ?_) (fun h6 => ?_)
          · skip
            refine wi_aload_n hC 2 d_MS_goesOn_192 rfl rfl ?_
            refine wi_iload_n hC 3 d_MS_goesOn_193 rfl rfl ?_
            refine k_MS_kind hC hp wd_852 (by decide) (Nat.le_of_ble_eq_true rfl) d_MS_goesOn_194 ?_
            refine wi_iconst hC 1 (by decide) d_MS_goesOn_197 ?_
            obtain ⟨Tt3, eTt3⟩ : ∃ y : Bool, y = (
                    if f_MS_kind τ a1 = 1 then
                      true
                    else
                      if a2 < 0 then
                        false
                      else
                        if f_MS_kind τ a2 = 1 then
                          true
                        else
                          false) := ⟨_, rfl⟩
            have Jt3 : ∀ (t3 : Bool), Tt3 = t3 → WS p l e { frames := 2, cells := 0, slots := 0, locals := 42 } s m args below meth c Q E 7 219 [(5, .int (bI t2)), (4, .int (bI t1)), (0, .ref 42), (1, .int a1), (2, .int a2), (3, .int (bI a3))] [.int (bI t3)] (σ, τ, q) := by
              intro t3  e_t3
              rw [eTt3] at e_t3
              refine wi_istore hC [(6, .int (bI t3)), (5, .int (bI t2)), (4, .int (bI t1)), (0, .ref 42), (1, .int a1), (2, .int a2), (3, .int (bI a3))] d_MS_goesOn_219 (by decide) rfl ?_
              refine wi_iload hC 0 d_MS_goesOn_221 rfl ?_
              obtain ⟨Tt4, eTt4⟩ : ∃ y : Bool × St, y = (
                      if t3 = true then
                        let r1 : Bool × St := f_MS_tell τ 2
                        if r1.1 = true then
                          (true, r1.2)
                        else
                          (false, r1.2)
                      else
                        (true, τ)) := ⟨_, rfl⟩
              have Jt4 : ∀ (t4 : Bool × St), Tt4 = t4 → WS p l e { frames := 2, cells := 0, slots := 0, locals := 42 } s m args below meth c Q E 7 239 [(6, .int (bI t3)), (5, .int (bI t2)), (4, .int (bI t1)), (0, .ref 42), (1, .int a1), (2, .int a2), (3, .int (bI a3))] [.int (bI t4.1)] (σ, t4.2, q) := by
                intro t4  e_t4
                rw [eTt4] at e_t4
                have hf : f_MS_goesOn τ a1 a2 a3 = (t4.1, t4.2) := by subst e_t4; subst e_t3; subst e_t2; subst e_t1; exact (Eq.trans (if_neg h4) (Eq.trans (if_neg h5) (if_pos h6)))
                exact wi_zret hC hr hk d_MS_goesOn_239 rfl (congrArg (fun z => some (Value.int (bI z.1))) hf) (congrArg (fun z => (σ, z.2, q)) hf).symm hQ
              refine wi_z_eq (b := t3) hC 234 d_MS_goesOn_223 (by decide) (fun h10 => ?_) (fun h10 => ?_)
              · skip
                refine wi_iconst hC 1 (by decide) d_MS_goesOn_234 ?_
                refine wi_goto hC 239 d_MS_goesOn_235 (by decide) ?_
                exact Jt4 (true, τ) (by exact (Eq.trans eTt4 (if_neg h10)))
              · skip
                refine wi_aload_n hC 3 d_MS_goesOn_226 rfl rfl ?_
                refine wi_iconst hC 2 (by decide) d_MS_goesOn_227 ?_
                refine k_MS_tell hC (by decide) wd_853 (by decide) (Nat.le_of_ble_eq_true rfl) d_MS_goesOn_228 ?_
                obtain ⟨r1, e_r1⟩ : ∃ y : Bool × St, f_MS_tell τ 2 = y := ⟨_, rfl⟩
                rw [e_r1]
                refine wi_z_eq (b := r1.1) hC 238 d_MS_goesOn_231 (by decide) (fun h11 => ?_) (fun h11 => ?_)
                · skip
                  refine wi_iconst hC 0 (by decide) d_MS_goesOn_238 ?_
                  exact Jt4 (false, r1.2) (by subst e_r1; exact (Eq.trans eTt4 (Eq.trans (if_pos h10) (if_neg h11))))
                · skip
                  refine wi_iconst hC 1 (by decide) d_MS_goesOn_234 ?_
                  refine wi_goto hC 239 d_MS_goesOn_235 (by decide) ?_
                  exact Jt4 (true, r1.2) (by subst e_r1; exact (Eq.trans eTt4 (Eq.trans (if_pos h10) (if_pos h11))))
            refine wi_icmp_eq hC 214 d_MS_goesOn_198 (by decide) (fun h7 => ?_) (fun h7 => ?_)
            · skip
              refine wi_iconst hC 1 (by decide) d_MS_goesOn_214 ?_
              refine wi_goto hC 219 d_MS_goesOn_215 (by decide) ?_
              exact Jt3 true (by exact (Eq.trans eTt3 (if_pos h7)))
            · skip
              refine wi_iload_n hC 4 d_MS_goesOn_201 rfl rfl ?_
              refine wi_if_lt hC 218 d_MS_goesOn_202 (by decide) (fun h8 => ?_) (fun h8 => ?_)
              · skip
                refine wi_iconst hC 0 (by decide) d_MS_goesOn_218 ?_
                exact Jt3 false (by exact (Eq.trans eTt3 (Eq.trans (if_neg h7) (if_pos h8))))
              · skip
                refine wi_aload_n hC 2 d_MS_goesOn_205 rfl rfl ?_
                refine wi_iload_n hC 4 d_MS_goesOn_206 rfl rfl ?_
                refine k_MS_kind hC hq wd_852 (by decide) (Nat.le_of_ble_eq_true rfl) d_MS_goesOn_207 ?_
                refine wi_iconst hC 1 (by decide) d_MS_goesOn_210 ?_
                refine wi_icmp_ne hC 218 d_MS_goesOn_211 (by decide) (fun h9 => ?_) (fun h9 => ?_)
                · skip
                  refine wi_iconst hC 0 (by decide) d_MS_goesOn_218 ?_
                  exact Jt3 false (by exact (Eq.trans eTt3 (Eq.trans (if_neg h7) (Eq.trans (if_neg h8) (if_neg h9)))))
                · skip
                  refine wi_iconst hC 1 (by decide) d_MS_goesOn_214 ?_
                  refine wi_goto hC 219 d_MS_goesOn_215 (by decide) ?_
                  exact Jt3 true (by exact (Eq.trans eTt3 (Eq.trans (if_neg h7) (Eq.trans (if_neg h8) (if_pos h9)))))
          · skip
            refine wi_aload_n hC 2 d_MS_goesOn_173 rfl rfl ?_
            refine wi_iconst hC 1 (by decide) d_MS_goesOn_174 ?_
            refine k_MS_tell hC (by decide) wd_853 (by decide) (Nat.le_of_ble_eq_true rfl) d_MS_goesOn_175 ?_
            obtain ⟨r2, e_r2⟩ : ∃ y : Bool × St, f_MS_tell τ 1 = y := ⟨_, rfl⟩
            rw [e_r2]
            obtain ⟨Tt5, eTt5⟩ : ∃ y : St, y = (
                    if r2.1 = true then
                      let s1 : St := f_MS_answer r2.2 65535 (-4611686018427387904)
                      s1
                    else
                      r2.2) := ⟨_, rfl⟩
            have Jt5 : ∀ (t5 : St), Tt5 = t5 → WS p l e { frames := 2, cells := 0, slots := 0, locals := 42 } s m args below meth c Q E 7 190 [(5, .int (bI t2)), (4, .int (bI t1)), (0, .ref 42), (1, .int a1), (2, .int a2), (3, .int (bI a3))] [] (σ, t5, q) := by
              intro t5  e_t5
              rw [eTt5] at e_t5
              refine wi_iconst hC 0 (by decide) d_MS_goesOn_190 ?_
              have hf : f_MS_goesOn τ a1 a2 a3 = (false, t5) := by subst e_t5; subst e_r2; subst e_t2; subst e_t1; exact (Eq.trans (if_neg h4) (Eq.trans (if_neg h5) (if_neg h6)))
              exact wi_zret hC hr hk d_MS_goesOn_191 rfl (congrArg (fun z => some (Value.int (bI z.1))) hf) (congrArg (fun z => (σ, z.2, q)) hf).symm hQ
            refine wi_z_eq (b := r2.1) hC 190 d_MS_goesOn_178 (by decide) (fun h12 => ?_) (fun h12 => ?_)
            · skip
              exact Jt5 r2.2 (by exact (Eq.trans eTt5 (if_neg h12)))
            · skip
              refine wi_aload_n hC 2 d_MS_goesOn_181 rfl rfl ?_
              refine wi_ldc hC wd_805 d_MS_goesOn_182 ?_
              refine wi_ldc2 hC wd_855 d_MS_goesOn_184 ?_
              refine k_MS_answer hC  wd_854 (by decide) (Nat.le_of_ble_eq_true rfl) d_MS_goesOn_187 ?_
              refine wi_nmM (fun s1 e_s1 => ?_)
              exact Jt5 s1 (by subst e_s1; exact (Eq.trans eTt5 (if_pos h12)))
        · skip
          exact B1   (by subst e_t2; subst e_t1; exact (Eq.trans (if_neg h4) (if_pos h5)))
    refine wi_if_lt hC 33 d_MS_goesOn_17 (by decide) (fun h2 => ?_) (fun h2 => ?_)
    · skip
      refine wi_iconst hC 0 (by decide) d_MS_goesOn_33 ?_
      exact Jt2 false (by exact (Eq.trans eTt2 (if_pos h2)))
    · skip
      refine wi_aload_n hC 1 d_MS_goesOn_20 rfl rfl ?_
      refine wi_iload_n hC 3 d_MS_goesOn_21 rfl rfl ?_
      refine k_MS_kind hC hq wd_852 (by decide) (Nat.le_of_ble_eq_true rfl) d_MS_goesOn_22 ?_
      refine wi_iconst hC 5 (by decide) d_MS_goesOn_25 ?_
      refine wi_icmp_ne hC 33 d_MS_goesOn_26 (by decide) (fun h3 => ?_) (fun h3 => ?_)
      · skip
        refine wi_iconst hC 0 (by decide) d_MS_goesOn_33 ?_
        exact Jt2 false (by exact (Eq.trans eTt2 (Eq.trans (if_neg h2) (if_neg h3))))
      · skip
        refine wi_iconst hC 1 (by decide) d_MS_goesOn_29 ?_
        refine wi_goto hC 34 d_MS_goesOn_30 (by decide) ?_
        exact Jt2 true (by exact (Eq.trans eTt2 (Eq.trans (if_neg h2) (if_pos h3))))
  refine wi_icmp_ne hC 13 d_MS_goesOn_6 (by decide) (fun h1 => ?_) (fun h1 => ?_)
  · skip
    refine wi_iconst hC 0 (by decide) d_MS_goesOn_13 ?_
    exact Jt1 false (by exact (Eq.trans eTt1 (if_neg h1)))
  · skip
    refine wi_iconst hC 1 (by decide) d_MS_goesOn_9 ?_
    refine wi_goto hC 14 d_MS_goesOn_10 (by decide) ?_
    exact Jt1 true (by exact (Eq.trans eTt1 (if_pos h1)))
theorem k_MS_goesOn {p : Program} {l : Launch} {e : Env} {R : Room} {s : State} {m : MethodId} {args : Array Value} {below : List Frame} {meth : Method} {c : Code} {Q : State → Prop} {E : Ev} {nL pc index : Nat} {lv : List (Nat × Value)} {rest : List Value} {cc : ByteArray} {own : String} {σ τ : St} {q : Int64} {a1 : Int32} {a2 : Int32} (hC : Cx p s m args c cc nL own E) {x_a3 : Int32} (a3 : Bool) (hx_a3 : x_a3 = bI a3) (hp : vp_in a1 8) (hq : vp_in a2 8) (hl : Cond.methodLink own index y_MS_goesOn ∈ WL) (hR : 2 + 1 ≤ R.frames ∧ 8 + (7 + 11) + 42 ≤ R.locals) (hs8 : (rest.map fun v => v.category).sum ≤ 8) (d : decode cc pc = .ok (.invokevirtual index, 3)) (k : WS p l e R s m args below meth c Q E nL (pc + 3) lv ((.int (bI ((f_MS_goesOn τ a1 a2 a3).1))) :: rest) (σ, (f_MS_goesOn τ a1 a2 a3).2, q)) : WS p l e R s m args below meth c Q E nL pc lv (.int x_a3 :: .int a2 :: .int a1 :: .ref 42 :: rest) (σ, τ, q) := by
  subst hx_a3
  exact wi_callV hC (n := 3) (vs := [.int a1, .int a2, .int (bI a3)]) (rest := rest) 42 12 (by decide) rfl rfl rfl (c_MS_goesOn l E σ τ q a1 a2 a3 hp hq) (by decide +kernel) wd_856 wd_809 wd_857 wd_858 ⟨rfl, rfl⟩ rfl rfl hl hR hs8 d k
set_option maxRecDepth 100000 in
set_option maxHeartbeats 400000 in
theorem c_MS_nothing (l : Launch) (E : Ev) (σ τ : St) (q : Int64) (a1 : Int32) (hp : vp_in a1 8) : MF l y_MS_nothing prog_15_method_13_code 2 (some .boolean) { frames := 1, cells := 0, slots := 0, locals := 23 } E [.ref 42, .int a1] (σ, τ, q) (some (.int (bI (f_MS_nothing τ a1)))) (σ, τ, q) := by
  refine MF_intro (lv0 := [(0, .ref 42), (1, .int a1)]) (by decide) wd_861 (Nat.le_of_ble_eq_true rfl) rfl ?_
  intro p e s m args below meth c Q hC hr hk hQ
  replace hC : Cx p s m args c prog_15_method_13_code 2 "PartnerStackModel$RealStepsModel" E := hC
  refine wi_aload_n hC 0 d_MS_nothing_0 rfl rfl ?_
  refine wi_iload_n hC 1 d_MS_nothing_1 rfl rfl ?_
  refine k_MS_kind hC hp wd_852 (by decide) (Nat.le_of_ble_eq_true rfl) d_MS_nothing_2 ?_
  refine wi_iconst hC 3 (by decide) d_MS_nothing_5 ?_
  obtain ⟨Tt1, eTt1⟩ : ∃ y : Bool, y = (
          if 3 ≤ (f_MS_kind τ a1) then
            false
          else
            if gJ τ 111 (jat a1) = 0 then
              true
            else
              false) := ⟨_, rfl⟩
  have Jt1 : ∀ (t1 : Bool), Tt1 = t1 → WS p l e { frames := 1, cells := 0, slots := 0, locals := 23 } s m args below meth c Q E 2 25 [(0, .ref 42), (1, .int a1)] [.int (bI t1)] (σ, τ, q) := by
    intro t1  e_t1
    rw [eTt1] at e_t1
    have hf : f_MS_nothing τ a1 = t1 := by subst e_t1; exact rfl
    exact wi_zret hC hr hk d_MS_nothing_25 rfl (congrArg (fun z => some (Value.int (bI z))) hf) rfl hQ
  refine wi_icmp_ge hC 24 d_MS_nothing_6 (by decide) (fun h1 => ?_) (fun h1 => ?_)
  · skip
    refine wi_iconst hC 0 (by decide) d_MS_nothing_24 ?_
    exact Jt1 false (by exact (Eq.trans eTt1 (if_pos h1)))
  · skip
    refine wi_aload_n hC 0 d_MS_nothing_9 rfl rfl ?_
    refine wg_MS_fraction hC wd_816 d_MS_nothing_10 ?_
    refine wi_iload_n hC 1 d_MS_nothing_13 rfl rfl ?_
    refine wa_ld44 hC hp d_MS_nothing_14 ?_
    refine wi_lconst hC 0 (by decide) d_MS_nothing_15 ?_
    refine wi_lcmp_ne hC 24 d_MS_nothing_16 d_MS_nothing_17 (by decide) (fun h2 => ?_) (fun h2 => ?_)
    · skip
      refine wi_iconst hC 0 (by decide) d_MS_nothing_24 ?_
      exact Jt1 false (by exact (Eq.trans eTt1 (Eq.trans (if_neg h1) (if_neg h2))))
    · skip
      refine wi_iconst hC 1 (by decide) d_MS_nothing_20 ?_
      refine wi_goto hC 25 d_MS_nothing_21 (by decide) ?_
      exact Jt1 true (by exact (Eq.trans eTt1 (Eq.trans (if_neg h1) (if_pos h2))))
theorem k_MS_nothing {p : Program} {l : Launch} {e : Env} {R : Room} {s : State} {m : MethodId} {args : Array Value} {below : List Frame} {meth : Method} {c : Code} {Q : State → Prop} {E : Ev} {nL pc index : Nat} {lv : List (Nat × Value)} {rest : List Value} {cc : ByteArray} {own : String} {σ τ : St} {q : Int64} {a1 : Int32} (hC : Cx p s m args c cc nL own E)  (hp : vp_in a1 8) (hl : Cond.methodLink own index y_MS_nothing ∈ WL) (hR : 1 + 1 ≤ R.frames ∧ 8 + (2 + 11) + 23 ≤ R.locals) (hs8 : (rest.map fun v => v.category).sum ≤ 8) (d : decode cc pc = .ok (.invokevirtual index, 3)) (k : WS p l e R s m args below meth c Q E nL (pc + 3) lv ((.int (bI (f_MS_nothing τ a1))) :: rest) (σ, τ, q)) : WS p l e R s m args below meth c Q E nL pc lv (.int a1 :: .ref 42 :: rest) (σ, τ, q) := by
  exact wi_callV hC (n := 1) (vs := [.int a1]) (rest := rest) 42 12 (by decide) rfl rfl rfl (c_MS_nothing l E σ τ q a1 hp) (by decide +kernel) wd_861 wd_809 wd_862 wd_863 ⟨rfl, rfl⟩ rfl rfl hl hR hs8 d k
set_option maxRecDepth 100000 in
set_option maxHeartbeats 400000 in
theorem c_MS_unit (l : Launch) (E : Ev) (σ τ : St) (q : Int64) (a1 : Int32) (hp : vp_in a1 8) : MF l y_MS_unit prog_15_method_14_code 2 (some .int) { frames := 0, cells := 0, slots := 0, locals := 0 } E [.ref 42, .int a1] (σ, τ, q) (some (.int (f_MS_unit τ a1))) (σ, τ, q) := by
  refine MF_intro (lv0 := [(0, .ref 42), (1, .int a1)]) (by decide) wd_864 (Nat.le_of_ble_eq_true rfl) rfl ?_
  intro p e s m args below meth c Q hC hr hk hQ
  replace hC : Cx p s m args c prog_15_method_14_code 2 "PartnerStackModel$RealStepsModel" E := hC
  refine wi_aload_n hC 0 d_MS_unit_0 rfl rfl ?_
  refine wg_MS_top hC wd_815 d_MS_unit_1 ?_
  refine wi_iload_n hC 1 d_MS_unit_4 rfl rfl ?_
  refine wa_ld43 hC hp d_MS_unit_5 ?_
  refine wi_ldc hC wd_830 d_MS_unit_6 ?_
  refine wi_irem hC (by decide) d_MS_unit_8 ?_
  obtain ⟨Tt1, eTt1⟩ : ∃ y : Int32, y = (
          if jrem (gI τ 110 (jat a1)) 32768 = 0 then
            1
          else
            jrem (gI τ 110 (jat a1)) 32768) := ⟨_, rfl⟩
  have Jt1 : ∀ (t1 : Int32), Tt1 = t1 → WS p l e { frames := 0, cells := 0, slots := 0, locals := 0 } s m args below meth c Q E 2 25 [(0, .ref 42), (1, .int a1)] [.int t1] (σ, τ, q) := by
    intro t1  e_t1
    rw [eTt1] at e_t1
    refine wi_sipush hC 16446 (by decide) d_MS_unit_25 ?_
    refine wi_isub hC d_MS_unit_28 ?_
    have hf : f_MS_unit τ a1 = t1 - 16446 := by subst e_t1; exact rfl
    exact wi_iret hC hr hk d_MS_unit_29 (congrArg (fun z => some (Value.int z)) hf) rfl hQ
  refine wi_if_ne hC 16 d_MS_unit_9 (by decide) (fun h1 => ?_) (fun h1 => ?_)
  · skip
    refine wi_aload_n hC 0 d_MS_unit_16 rfl rfl ?_
    refine wg_MS_top hC wd_815 d_MS_unit_17 ?_
    refine wi_iload_n hC 1 d_MS_unit_20 rfl rfl ?_
    refine wa_ld43 hC hp d_MS_unit_21 ?_
    refine wi_ldc hC wd_830 d_MS_unit_22 ?_
    refine wi_irem hC (by decide) d_MS_unit_24 ?_
    exact Jt1 (jrem (gI τ 110 (jat a1)) 32768) (by exact (Eq.trans eTt1 (if_neg h1)))
  · skip
    refine wi_iconst hC 1 (by decide) d_MS_unit_12 ?_
    refine wi_goto hC 25 d_MS_unit_13 (by decide) ?_
    exact Jt1 1 (by exact (Eq.trans eTt1 (if_pos h1)))
theorem k_MS_unit {p : Program} {l : Launch} {e : Env} {R : Room} {s : State} {m : MethodId} {args : Array Value} {below : List Frame} {meth : Method} {c : Code} {Q : State → Prop} {E : Ev} {nL pc index : Nat} {lv : List (Nat × Value)} {rest : List Value} {cc : ByteArray} {own : String} {σ τ : St} {q : Int64} {a1 : Int32} (hC : Cx p s m args c cc nL own E)  (hp : vp_in a1 8) (hl : Cond.methodLink own index y_MS_unit ∈ WL) (hR : 0 + 1 ≤ R.frames ∧ 8 + (2 + 11) + 0 ≤ R.locals) (hs8 : (rest.map fun v => v.category).sum ≤ 8) (d : decode cc pc = .ok (.invokevirtual index, 3)) (k : WS p l e R s m args below meth c Q E nL (pc + 3) lv ((.int (f_MS_unit τ a1)) :: rest) (σ, τ, q)) : WS p l e R s m args below meth c Q E nL pc lv (.int a1 :: .ref 42 :: rest) (σ, τ, q) := by
  exact wi_callV hC (n := 1) (vs := [.int a1]) (rest := rest) 42 12 (by decide) rfl rfl rfl (c_MS_unit l E σ τ q a1 hp) (by decide +kernel) wd_864 wd_809 wd_865 wd_866 ⟨rfl, rfl⟩ rfl rfl hl hR hs8 d k
set_option maxRecDepth 100000 in
set_option maxHeartbeats 400000 in
theorem c_MS_apart (l : Launch) (E : Ev) (σ τ : St) (q : Int64) (a1 : Int32) (hp : vp_in a1 8) : MF l y_MS_apart prog_15_method_15_code 2 none { frames := 1, cells := 0, slots := 0, locals := 21 } E [.ref 42, .int a1] (σ, τ, q) none (σ, (f_MS_apart τ a1), q) := by
  refine MF_intro (lv0 := [(0, .ref 42), (1, .int a1)]) (by decide) wd_871 (Nat.le_of_ble_eq_true rfl) rfl ?_
  intro p e s m args below meth c Q hC hr hk hQ
  replace hC : Cx p s m args c prog_15_method_15_code 2 "PartnerStackModel$RealStepsModel" E := hC
  refine wi_aload_n hC 0 d_MS_apart_0 rfl rfl ?_
  refine wi_aload_n hC 0 d_MS_apart_1 rfl rfl ?_
  refine wg_MS_fraction hC wd_816 d_MS_apart_2 ?_
  refine wi_iload_n hC 1 d_MS_apart_5 rfl rfl ?_
  refine wa_ld44 hC hp d_MS_apart_6 ?_
  refine wp_MS_digits hC wd_867 d_MS_apart_7 ?_
  refine wi_nmM (fun s1 e_s1 => ?_)
  refine wi_aload_n hC 0 d_MS_apart_10 rfl rfl ?_
  refine wi_aload_n hC 0 d_MS_apart_11 rfl rfl ?_
  refine wi_iload_n hC 1 d_MS_apart_12 rfl rfl ?_
  refine k_MS_unit hC hp wd_868 (by decide) (Nat.le_of_ble_eq_true rfl) d_MS_apart_13 ?_
  refine wi_bipush hC 63 (by decide) d_MS_apart_16 ?_
  refine wi_iadd hC d_MS_apart_18 ?_
  refine wp_MS_first hC wd_869 d_MS_apart_19 ?_
  refine wi_nmM (fun s2 e_s2 => ?_)
  refine wi_loop ((b_MS_apart_22)) (fun t2 => True) (fun t2 => [(0, .ref 42), (1, .int a1)]) (fun t2 => (σ, t2, q)) 56 ?_ (fun _ _ _ _ => trivial) (dblf (gJ s2 34 42)) s2 trivial (dbl_halt (b := (b_MS_apart_22)) (fun t => gJ t 34 42) st_b_MS_apart_22 s2) ?_
  · intro t2 hi_t2 hc_t2 hx_t2
    refine wi_aload_n hC 0 d_MS_apart_22 rfl rfl ?_
    refine wg_MS_digits hC wd_867 d_MS_apart_23 ?_
    refine wi_lconst hC 0 (by decide) d_MS_apart_26 ?_
    refine wi_lcmp_le hC 56 d_MS_apart_27 d_MS_apart_28 (by decide) (fun h1 => ?_) (fun h1 => ?_)
    · skip
      exact hx_t2 t2 (by exact (if_pos h1))
    · skip
      refine wi_aload_n hC 0 d_MS_apart_31 rfl rfl ?_
      refine wi_ldc2 hC wd_870 d_MS_apart_32 ?_
      refine wi_aload_n hC 0 d_MS_apart_35 rfl rfl ?_
      refine wg_MS_digits hC wd_867 d_MS_apart_36 ?_
      refine wi_lmul hC d_MS_apart_39 ?_
      refine wp_MS_digits hC wd_867 d_MS_apart_40 ?_
      refine wi_nmM (fun s3 e_s3 => ?_)
      refine wi_aload_n hC 0 d_MS_apart_43 rfl rfl ?_
      refine wi_dup hC rfl d_MS_apart_44 ?_
      refine wg_MS_first hC wd_869 d_MS_apart_45 ?_
      refine wi_iconst hC 1 (by decide) d_MS_apart_48 ?_
      refine wi_isub hC d_MS_apart_49 ?_
      refine wp_MS_first hC wd_869 d_MS_apart_50 ?_
      refine wi_nmM (fun s4 e_s4 => ?_)
      refine wi_goto hC 22 d_MS_apart_53 (by decide) ?_
      exact hc_t2 s4 (by subst e_s4; subst e_s3; exact (if_neg h1))
  obtain ⟨t1, e_t1⟩ : ∃ y : St, lpn ((b_MS_apart_22)) (dblf (gJ s2 34 42)) s2 = y := ⟨_, rfl⟩
  rw [e_t1]
  have hf : f_MS_apart τ a1 = t1 := by subst e_t1; subst e_s2; subst e_s1; exact rfl
  exact wi_vret hC hr hk d_MS_apart_56 rfl (congrArg (fun z => (σ, z, q)) hf).symm hQ
theorem k_MS_apart {p : Program} {l : Launch} {e : Env} {R : Room} {s : State} {m : MethodId} {args : Array Value} {below : List Frame} {meth : Method} {c : Code} {Q : State → Prop} {E : Ev} {nL pc index : Nat} {lv : List (Nat × Value)} {rest : List Value} {cc : ByteArray} {own : String} {σ τ : St} {q : Int64} {a1 : Int32} (hC : Cx p s m args c cc nL own E)  (hp : vp_in a1 8) (hl : Cond.methodLink own index y_MS_apart ∈ WL) (hR : 1 + 1 ≤ R.frames ∧ 8 + (2 + 11) + 21 ≤ R.locals) (hs8 : (rest.map fun v => v.category).sum ≤ 8) (d : decode cc pc = .ok (.invokevirtual index, 3)) (k : WS p l e R s m args below meth c Q E nL (pc + 3) lv rest (σ, (f_MS_apart τ a1), q)) : WS p l e R s m args below meth c Q E nL pc lv (.int a1 :: .ref 42 :: rest) (σ, τ, q) := by
  exact wi_callV hC (n := 1) (vs := [.int a1]) (rest := rest) 42 12 (by decide) rfl rfl rfl (c_MS_apart l E σ τ q a1 hp) (by decide +kernel) wd_871 wd_809 wd_872 wd_873 ⟨rfl, rfl⟩ rfl rfl hl hR hs8 d k
set_option maxRecDepth 100000 in
set_option maxHeartbeats 400000 in
theorem c_MS_order_z (l : Launch) (E : Ev) (σ τ : St) (q : Int64) (a1 : Int32) (hp : vp_in a1 8) : MF l y_MS_order prog_15_method_29_code 11 (some .int) { frames := 2, cells := 0, slots := 0, locals := 44 } E [.ref 42, .int a1, .int (bI true), .int (-1)] (σ, τ, q) (some (.int ((f_MS_order_z τ a1).1))) (σ, (f_MS_order_z τ a1).2, q) := by
  refine MF_intro (lv0 := [(0, .ref 42), (1, .int a1), (2, .int (bI true)), (3, .int (-1))]) (by decide) wd_875 (Nat.le_of_ble_eq_true rfl) rfl ?_
  intro p e s m args below meth c Q hC hr hk hQ
  replace hC : Cx p s m args c prog_15_method_29_code 11 "PartnerStackModel$RealStepsModel" E := hC
  refine wi_aload_n hC 0 d_MS_order_0 rfl rfl ?_
  refine wi_iload_n hC 1 d_MS_order_1 rfl rfl ?_
  refine k_MS_nothing hC hp wd_874 (by decide) (Nat.le_of_ble_eq_true rfl) d_MS_order_2 ?_
  obtain ⟨Tt1, eTt1⟩ : ∃ y : Int32, y = (
          if f_MS_nothing τ a1 = true then
            0
          else
            if f_MS_minus τ a1 = true then
              (-1)
            else
              1) := ⟨_, rfl⟩
  have Jt1 : ∀ (t1 : Int32), Tt1 = t1 → WS p l e { frames := 2, cells := 0, slots := 0, locals := 44 } s m args below meth c Q E 11 25 [(0, .ref 42), (1, .int a1), (2, .int (bI true)), (3, .int (-1))] [.int t1] (σ, τ, q) := by
    intro t1  e_t1
    rw [eTt1] at e_t1
    refine wi_istore hC [(4, .int t1), (0, .ref 42), (1, .int a1), (2, .int (bI true)), (3, .int (-1))] d_MS_order_25 (by decide) rfl ?_
    refine wi_iload_n hC 3 d_MS_order_27 rfl rfl ?_
    refine wi_z_ne (b := true) hC 39 d_MS_order_28 (by decide) (fun _ => ?_) (fun h3 => absurd (by decide) h3)
    refine wi_iconst hC 0 (by decide) d_MS_order_39 ?_
    refine wi_goto hC 56 d_MS_order_40 (by decide) ?_
    refine wi_istore hC [(5, .int 0), (4, .int t1), (0, .ref 42), (1, .int a1), (2, .int (bI true)), (3, .int (-1))] d_MS_order_56 (by decide) rfl ?_
    refine wi_aload_n hC 2 d_MS_order_58 rfl rfl ?_
    refine wi_iload_n hC 3 d_MS_order_59 rfl rfl ?_
    refine k_MS_kind hC hp wd_852 (by decide) (Nat.le_of_ble_eq_true rfl) d_MS_order_60 ?_
    refine wi_iconst hC 4 (by decide) d_MS_order_63 ?_
    obtain ⟨Tt2, eTt2⟩ : ∃ y : Bool, y = (
            if f_MS_kind τ a1 = 4 then
              true
            else
              false) := ⟨_, rfl⟩
    have Jt2 : ∀ (t2 : Bool), Tt2 = t2 → WS p l e { frames := 2, cells := 0, slots := 0, locals := 44 } s m args below meth c Q E 11 72 [(5, .int 0), (4, .int t1), (0, .ref 42), (1, .int a1), (2, .int (bI true)), (3, .int (-1))] [.int (bI t2)] (σ, τ, q) := by
      intro t2  e_t2
      rw [eTt2] at e_t2
      refine wi_istore hC [(6, .int (bI t2)), (5, .int 0), (4, .int t1), (0, .ref 42), (1, .int a1), (2, .int (bI true)), (3, .int (-1))] d_MS_order_72 (by decide) rfl ?_
      refine wi_iload_n hC 5 d_MS_order_74 rfl rfl ?_
      refine wi_z_ne (b := true) hC 91 d_MS_order_75 (by decide) (fun _ => ?_) (fun h5 => absurd (by decide) h5)
      refine wi_iconst hC 0 (by decide) d_MS_order_91 ?_
      refine wi_istore hC [(7, .int 0), (6, .int (bI t2)), (5, .int 0), (4, .int t1), (0, .ref 42), (1, .int a1), (2, .int (bI true)), (3, .int (-1))] d_MS_order_92 (by decide) rfl ?_
      refine wi_iload hC 1 d_MS_order_94 rfl ?_
      have B1 : f_MS_order_z τ a1 = f_MS_order_z_b116 τ t1 → WS p l e { frames := 2, cells := 0, slots := 0, locals := 44 } s m args below meth c Q E 11 116 [(7, .int 0), (6, .int (bI t2)), (5, .int 0), (4, .int t1), (0, .ref 42), (1, .int a1), (2, .int (bI true)), (3, .int (-1))] [] (σ, τ, q) := by
        intro hB1
        refine wi_iload hC 3 d_MS_order_116 rfl ?_
        refine wi_iload hC 2 d_MS_order_118 rfl ?_
        refine wi_icmp_eq hC 136 d_MS_order_120 (by decide) (fun h8 => ?_) (fun h8 => ?_)
        · skip
          refine wi_iload hC 3 d_MS_order_136 rfl ?_
          refine wi_if_eq hC 151 d_MS_order_138 (by decide) (fun _ => ?_) (fun h9 => absurd h8 h9)
          refine wi_iconst hC 0 (by decide) d_MS_order_151 ?_
          have hf : f_MS_order_z τ a1 = (0, τ) := by exact (Eq.trans hB1 (if_pos h8))
          exact wi_iret hC hr hk d_MS_order_152 (congrArg (fun z => some (Value.int z.1)) hf) (congrArg (fun z => (σ, z.2, q)) hf).symm hQ
        · skip
          refine wi_iload hC 3 d_MS_order_123 rfl ?_
          refine wi_iload hC 2 d_MS_order_125 rfl ?_
          obtain ⟨Tt3, eTt3⟩ : ∃ y : Int32, y = (
                  if 0 ≤ t1 then
                    1
                  else
                    (-1)) := ⟨_, rfl⟩
          have Jt3 : ∀ (t3 : Int32), Tt3 = t3 → WS p l e { frames := 2, cells := 0, slots := 0, locals := 44 } s m args below meth c Q E 11 135 [(7, .int 0), (6, .int (bI t2)), (5, .int 0), (4, .int t1), (0, .ref 42), (1, .int a1), (2, .int (bI true)), (3, .int (-1))] [.int t3] (σ, τ, q) := by
            intro t3  e_t3
            rw [eTt3] at e_t3
            have hf : f_MS_order_z τ a1 = (t3, τ) := by subst e_t3; exact (Eq.trans hB1 (if_neg h8))
            exact wi_iret hC hr hk d_MS_order_135 (congrArg (fun z => some (Value.int z.1)) hf) (congrArg (fun z => (σ, z.2, q)) hf).symm hQ
          refine wi_icmp_ge hC 134 d_MS_order_127 (by decide) (fun h10 => ?_) (fun h10 => ?_)
          · skip
            refine wi_iconst hC 1 (by decide) d_MS_order_134 ?_
            exact Jt3 1 (by exact (Eq.trans eTt3 (if_pos h10)))
          · skip
            refine wi_iconst hC (-1) (by decide) d_MS_order_130 ?_
            refine wi_goto hC 135 d_MS_order_131 (by decide) ?_
            exact Jt3 (-1) (by exact (Eq.trans eTt3 (if_neg h10)))
      refine wi_z_eq (b := t2) hC 116 d_MS_order_96 (by decide) (fun h6 => ?_) (fun h6 => ?_)
      · skip
        exact B1   (by subst e_t2; subst e_t1; exact (if_neg h6))
      · skip
        refine wi_iload hC 0 d_MS_order_99 rfl ?_
        refine wi_if_eq hC 116 d_MS_order_101 (by decide) (fun _ => ?_) (fun h7 => absurd (by decide) h7)
        exact B1   (by subst e_t2; subst e_t1; exact (if_pos h6))
    refine wi_icmp_ne hC 71 d_MS_order_64 (by decide) (fun h4 => ?_) (fun h4 => ?_)
    · skip
      refine wi_iconst hC 0 (by decide) d_MS_order_71 ?_
      exact Jt2 false (by exact (Eq.trans eTt2 (if_neg h4)))
    · skip
      refine wi_iconst hC 1 (by decide) d_MS_order_67 ?_
      refine wi_goto hC 72 d_MS_order_68 (by decide) ?_
      exact Jt2 true (by exact (Eq.trans eTt2 (if_pos h4)))
  refine wi_z_eq (b := (f_MS_nothing τ a1)) hC 12 d_MS_order_5 (by decide) (fun h1 => ?_) (fun h1 => ?_)
  · skip
    refine wi_aload_n hC 0 d_MS_order_12 rfl rfl ?_
    refine wi_iload_n hC 1 d_MS_order_13 rfl rfl ?_
    refine k_MS_minus hC hp wd_860 (by decide) (Nat.le_of_ble_eq_true rfl) d_MS_order_14 ?_
    refine wi_z_eq (b := (f_MS_minus τ a1)) hC 24 d_MS_order_17 (by decide) (fun h2 => ?_) (fun h2 => ?_)
    · skip
      refine wi_iconst hC 1 (by decide) d_MS_order_24 ?_
      exact Jt1 1 (by exact (Eq.trans eTt1 (Eq.trans (if_neg h1) (if_neg h2))))
    · skip
      refine wi_iconst hC (-1) (by decide) d_MS_order_20 ?_
      refine wi_goto hC 25 d_MS_order_21 (by decide) ?_
      exact Jt1 (-1) (by exact (Eq.trans eTt1 (Eq.trans (if_neg h1) (if_pos h2))))
  · skip
    refine wi_iconst hC 0 (by decide) d_MS_order_8 ?_
    refine wi_goto hC 25 d_MS_order_9 (by decide) ?_
    exact Jt1 0 (by exact (Eq.trans eTt1 (if_pos h1)))
theorem k_MS_order_z {p : Program} {l : Launch} {e : Env} {R : Room} {s : State} {m : MethodId} {args : Array Value} {below : List Frame} {meth : Method} {c : Code} {Q : State → Prop} {E : Ev} {nL pc index : Nat} {lv : List (Nat × Value)} {rest : List Value} {cc : ByteArray} {own : String} {σ τ : St} {q : Int64} {a1 : Int32} (hC : Cx p s m args c cc nL own E)  (hp : vp_in a1 8) (hl : Cond.methodLink own index y_MS_order ∈ WL) (hR : 2 + 1 ≤ R.frames ∧ 8 + (11 + 11) + 44 ≤ R.locals) (hs8 : (rest.map fun v => v.category).sum ≤ 8) (d : decode cc pc = .ok (.invokevirtual index, 3)) (k : WS p l e R s m args below meth c Q E nL (pc + 3) lv ((.int ((f_MS_order_z τ a1).1)) :: rest) (σ, (f_MS_order_z τ a1).2, q)) : WS p l e R s m args below meth c Q E nL pc lv (.int (-1) :: .int (bI true) :: .int a1 :: .ref 42 :: rest) (σ, τ, q) := by
  exact wi_callV hC (n := 3) (vs := [.int a1, .int (bI true), .int (-1)]) (rest := rest) 42 12 (by decide) rfl rfl rfl (c_MS_order_z l E σ τ q a1 hp) (by decide +kernel) wd_875 wd_809 wd_876 wd_877 ⟨rfl, rfl⟩ rfl rfl hl hR hs8 d k
set_option maxRecDepth 100000 in
set_option maxHeartbeats 400000 in
theorem c_MS_order_f (l : Launch) (E : Ev) (σ τ : St) (q : Int64) (a1 : Int32) (a3 : Int32) (hp : vp_in a1 8) (hq : vp_in a3 8) : MF l y_MS_order prog_15_method_29_code 11 (some .int) { frames := 2, cells := 0, slots := 0, locals := 44 } E [.ref 42, .int a1, .int (bI false), .int a3] (σ, τ, q) (some (.int ((f_MS_order_f τ a1 a3).1))) (σ, (f_MS_order_f τ a1 a3).2, q) := by
  refine MF_intro (lv0 := [(0, .ref 42), (1, .int a1), (2, .int (bI false)), (3, .int a3)]) (by decide) wd_875 (Nat.le_of_ble_eq_true rfl) rfl ?_
  intro p e s m args below meth c Q hC hr hk hQ
  replace hC : Cx p s m args c prog_15_method_29_code 11 "PartnerStackModel$RealStepsModel" E := hC
  refine wi_aload_n hC 0 d_MS_order_0 rfl rfl ?_
  refine wi_iload_n hC 1 d_MS_order_1 rfl rfl ?_
  refine k_MS_nothing hC hp wd_874 (by decide) (Nat.le_of_ble_eq_true rfl) d_MS_order_2 ?_
  obtain ⟨Tt1, eTt1⟩ : ∃ y : Int32, y = (
          if f_MS_nothing τ a1 = true then
            0
          else
            if f_MS_minus τ a1 = true then
              (-1)
            else
              1) := ⟨_, rfl⟩
  have Jt1 : ∀ (t1 : Int32), Tt1 = t1 → WS p l e { frames := 2, cells := 0, slots := 0, locals := 44 } s m args below meth c Q E 11 25 [(0, .ref 42), (1, .int a1), (2, .int (bI false)), (3, .int a3)] [.int t1] (σ, τ, q) := by
    intro t1  e_t1
    rw [eTt1] at e_t1
    refine wi_istore hC [(4, .int t1), (0, .ref 42), (1, .int a1), (2, .int (bI false)), (3, .int a3)] d_MS_order_25 (by decide) rfl ?_
    refine wi_iload_n hC 3 d_MS_order_27 rfl rfl ?_
    refine wi_z_ne (b := false) hC 39 d_MS_order_28 (by decide) (fun h3 => absurd h3 (by decide)) (fun _ => ?_)
    refine wi_aload_n hC 1 d_MS_order_31 rfl rfl ?_
    refine wi_iload_n hC 4 d_MS_order_32 rfl rfl ?_
    refine k_MS_nothing hC hq wd_874 (by decide) (Nat.le_of_ble_eq_true rfl) d_MS_order_33 ?_
    obtain ⟨Tt2, eTt2⟩ : ∃ y : Int32, y = (
            if f_MS_nothing τ a3 = true then
              0
            else
              if f_MS_minus τ a3 = true then
                (-1)
              else
                1) := ⟨_, rfl⟩
    have Jt2 : ∀ (t2 : Int32), Tt2 = t2 → WS p l e { frames := 2, cells := 0, slots := 0, locals := 44 } s m args below meth c Q E 11 56 [(4, .int t1), (0, .ref 42), (1, .int a1), (2, .int (bI false)), (3, .int a3)] [.int t2] (σ, τ, q) := by
      intro t2  e_t2
      rw [eTt2] at e_t2
      refine wi_istore hC [(5, .int t2), (4, .int t1), (0, .ref 42), (1, .int a1), (2, .int (bI false)), (3, .int a3)] d_MS_order_56 (by decide) rfl ?_
      refine wi_aload_n hC 2 d_MS_order_58 rfl rfl ?_
      refine wi_iload_n hC 3 d_MS_order_59 rfl rfl ?_
      refine k_MS_kind hC hp wd_852 (by decide) (Nat.le_of_ble_eq_true rfl) d_MS_order_60 ?_
      refine wi_iconst hC 4 (by decide) d_MS_order_63 ?_
      obtain ⟨Tt3, eTt3⟩ : ∃ y : Bool, y = (
              if f_MS_kind τ a1 = 4 then
                true
              else
                false) := ⟨_, rfl⟩
      have Jt3 : ∀ (t3 : Bool), Tt3 = t3 → WS p l e { frames := 2, cells := 0, slots := 0, locals := 44 } s m args below meth c Q E 11 72 [(5, .int t2), (4, .int t1), (0, .ref 42), (1, .int a1), (2, .int (bI false)), (3, .int a3)] [.int (bI t3)] (σ, τ, q) := by
        intro t3  e_t3
        rw [eTt3] at e_t3
        refine wi_istore hC [(6, .int (bI t3)), (5, .int t2), (4, .int t1), (0, .ref 42), (1, .int a1), (2, .int (bI false)), (3, .int a3)] d_MS_order_72 (by decide) rfl ?_
        refine wi_iload_n hC 5 d_MS_order_74 rfl rfl ?_
        refine wi_z_ne (b := false) hC 91 d_MS_order_75 (by decide) (fun h7 => absurd h7 (by decide)) (fun _ => ?_)
        refine wi_aload_n hC 3 d_MS_order_78 rfl rfl ?_
        refine wi_iload_n hC 6 d_MS_order_79 rfl rfl ?_
        refine k_MS_kind hC hq wd_852 (by decide) (Nat.le_of_ble_eq_true rfl) d_MS_order_80 ?_
        refine wi_iconst hC 4 (by decide) d_MS_order_83 ?_
        obtain ⟨Tt4, eTt4⟩ : ∃ y : Bool, y = (
                if f_MS_kind τ a3 = 4 then
                  true
                else
                  false) := ⟨_, rfl⟩
        have Jt4 : ∀ (t4 : Bool), Tt4 = t4 → WS p l e { frames := 2, cells := 0, slots := 0, locals := 44 } s m args below meth c Q E 11 92 [(6, .int (bI t3)), (5, .int t2), (4, .int t1), (0, .ref 42), (1, .int a1), (2, .int (bI false)), (3, .int a3)] [.int (bI t4)] (σ, τ, q) := by
          intro t4  e_t4
          rw [eTt4] at e_t4
          refine wi_istore hC [(7, .int (bI t4)), (6, .int (bI t3)), (5, .int t2), (4, .int t1), (0, .ref 42), (1, .int a1), (2, .int (bI false)), (3, .int a3)] d_MS_order_92 (by decide) rfl ?_
          refine wi_iload hC 1 d_MS_order_94 rfl ?_
          have B1 : f_MS_order_f τ a1 a3 = f_MS_order_f_b116 τ a1 a3 t1 t2 t3 t4 → WS p l e { frames := 2, cells := 0, slots := 0, locals := 44 } s m args below meth c Q E 11 116 [(7, .int (bI t4)), (6, .int (bI t3)), (5, .int t2), (4, .int t1), (0, .ref 42), (1, .int a1), (2, .int (bI false)), (3, .int a3)] [] (σ, τ, q) := by
            intro hB1
            refine wi_iload hC 3 d_MS_order_116 rfl ?_
            refine wi_iload hC 2 d_MS_order_118 rfl ?_
            refine wi_icmp_eq hC 136 d_MS_order_120 (by decide) (fun h12 => ?_) (fun h12 => ?_)
            · skip
              refine wi_iload hC 3 d_MS_order_136 rfl ?_
              refine wi_if_eq hC 151 d_MS_order_138 (by decide) (fun h13 => ?_) (fun h13 => ?_)
              · skip
                refine wi_iconst hC 0 (by decide) d_MS_order_151 ?_
                have hf : f_MS_order_f τ a1 a3 = (0, τ) := by exact (Eq.trans hB1 (Eq.trans (if_pos h12) (if_pos h13)))
                exact wi_iret hC hr hk d_MS_order_152 (congrArg (fun z => some (Value.int z.1)) hf) (congrArg (fun z => (σ, z.2, q)) hf).symm hQ
              · skip
                refine wi_iload hC 1 d_MS_order_141 rfl ?_
                have B2 : f_MS_order_f τ a1 a3 = f_MS_order_f_b153 τ a1 a3 t1 t3 t4 → WS p l e { frames := 2, cells := 0, slots := 0, locals := 44 } s m args below meth c Q E 11 153 [(7, .int (bI t4)), (6, .int (bI t3)), (5, .int t2), (4, .int t1), (0, .ref 42), (1, .int a1), (2, .int (bI false)), (3, .int a3)] [] (σ, τ, q) := by
                  intro hB2
                  refine wi_iload hC 1 d_MS_order_153 rfl ?_
                  have B3 : f_MS_order_f τ a1 a3 = f_MS_order_f_b163 τ t1 t3 → WS p l e { frames := 2, cells := 0, slots := 0, locals := 44 } s m args below meth c Q E 11 163 [(7, .int (bI t4)), (6, .int (bI t3)), (5, .int t2), (4, .int t1), (0, .ref 42), (1, .int a1), (2, .int (bI false)), (3, .int a3)] [] (σ, τ, q) := by
                    intro hB3
                    refine wi_iload hC 1 d_MS_order_163 rfl ?_
                    obtain ⟨Tt7, eTt7⟩ : ∃ y : Int32, y = (
                            if t3 = true then
                              t1
                            else
                              -t1) := ⟨_, rfl⟩
                    have Jt7 : ∀ (t7 : Int32), Tt7 = t7 → WS p l e { frames := 2, cells := 0, slots := 0, locals := 44 } s m args below meth c Q E 11 176 [(7, .int (bI t4)), (6, .int (bI t3)), (5, .int t2), (4, .int t1), (0, .ref 42), (1, .int a1), (2, .int (bI false)), (3, .int a3)] [.int t7] (σ, τ, q) := by
                      intro t7  e_t7
                      rw [eTt7] at e_t7
                      have hf : f_MS_order_f τ a1 a3 = (t7, τ) := by subst e_t7; exact hB3
                      exact wi_iret hC hr hk d_MS_order_176 (congrArg (fun z => some (Value.int z.1)) hf) (congrArg (fun z => (σ, z.2, q)) hf).symm hQ
                    refine wi_z_eq (b := t3) hC 173 d_MS_order_165 (by decide) (fun h22 => ?_) (fun h22 => ?_)
                    · skip
                      refine wi_iload hC 3 d_MS_order_173 rfl ?_
                      refine wi_ineg hC d_MS_order_175 ?_
                      exact Jt7 (-t1) (by exact (Eq.trans eTt7 (if_neg h22)))
                    · skip
                      refine wi_iload hC 3 d_MS_order_168 rfl ?_
                      refine wi_goto hC 176 d_MS_order_170 (by decide) ?_
                      exact Jt7 t1 (by exact (Eq.trans eTt7 (if_pos h22)))
                  refine wi_z_ne (b := t3) hC 163 d_MS_order_155 (by decide) (fun h16 => ?_) (fun h16 => ?_)
                  · skip
                    exact B3   (by exact (Eq.trans hB2 (if_pos h16)))
                  · skip
                    refine wi_iload hC 0 d_MS_order_158 rfl ?_
                    refine wi_z_eq (b := t4) hC 177 d_MS_order_160 (by decide) (fun h17 => ?_) (fun h17 => ?_)
                    · skip
                      refine wi_aload_n hC 4 d_MS_order_177 rfl rfl ?_
                      refine wi_iload_n hC 5 d_MS_order_178 rfl rfl ?_
                      refine k_MS_apart hC hp wd_878 (by decide) (Nat.le_of_ble_eq_true rfl) d_MS_order_179 ?_
                      refine wi_nmM (fun s1 e_s1 => ?_)
                      refine wi_aload_n hC 4 d_MS_order_182 rfl rfl ?_
                      refine wg_MS_digits hC wd_867 d_MS_order_183 ?_
                      refine wi_nmJ (fun v1 e_v1 => ?_)
                      refine wi_lstore hC [(8, .long v1), (7, .int (bI t4)), (6, .int (bI t3)), (5, .int t2), (4, .int t1), (0, .ref 42), (1, .int a1), (2, .int (bI false)), (3, .int a3)] d_MS_order_186 (by decide) rfl ?_
                      refine wi_aload_n hC 5 d_MS_order_188 rfl rfl ?_
                      refine wg_MS_first hC wd_869 d_MS_order_189 ?_
                      refine wi_nmI (fun v2 e_v2 => ?_)
                      refine wi_istore hC [(10, .int v2), (8, .long v1), (7, .int (bI t4)), (6, .int (bI t3)), (5, .int t2), (4, .int t1), (0, .ref 42), (1, .int a1), (2, .int (bI false)), (3, .int a3)] d_MS_order_192 (by decide) rfl ?_
                      refine wi_aload_n hC 6 d_MS_order_194 rfl rfl ?_
                      refine wi_iload_n hC 9 d_MS_order_195 rfl rfl ?_
                      refine k_MS_apart hC hq wd_878 (by decide) (Nat.le_of_ble_eq_true rfl) d_MS_order_196 ?_
                      refine wi_nmM (fun s2 e_s2 => ?_)
                      refine wi_iload hC 0 d_MS_order_199 rfl ?_
                      refine wi_aload_n hC 6 d_MS_order_201 rfl rfl ?_
                      refine wg_MS_first hC wd_869 d_MS_order_202 ?_
                      refine wi_icmp_eq hC 226 d_MS_order_205 (by decide) (fun h18 => ?_) (fun h18 => ?_)
                      · skip
                        refine wi_lload hC 1 d_MS_order_226 rfl ?_
                        refine wi_aload_n hC 6 d_MS_order_228 rfl rfl ?_
                        refine wg_MS_digits hC wd_867 d_MS_order_229 ?_
                        obtain ⟨Tt5, eTt5⟩ : ∃ y : Int32, y = (
                                if v1 = gJ s2 34 42 then
                                  0
                                else
                                  if f_MS_lessSize v1 (gJ s2 34 42) = true then
                                    -t1
                                  else
                                    t1) := ⟨_, rfl⟩
                        have Jt5 : ∀ (t5 : Int32), Tt5 = t5 → WS p l e { frames := 2, cells := 0, slots := 0, locals := 44 } s m args below meth c Q E 11 260 [(10, .int v2), (8, .long v1), (7, .int (bI t4)), (6, .int (bI t3)), (5, .int t2), (4, .int t1), (0, .ref 42), (1, .int a1), (2, .int (bI false)), (3, .int a3)] [.int t5] (σ, s2, q) := by
                          intro t5  e_t5
                          rw [eTt5] at e_t5
                          have hf : f_MS_order_f τ a1 a3 = (t5, s2) := by subst e_t5; subst e_s2; subst e_v2; subst e_v1; subst e_s1; exact (Eq.trans hB2 (Eq.trans (if_neg h16) (Eq.trans (if_neg h17) (if_pos h18))))
                          exact wi_iret hC hr hk d_MS_order_260 (congrArg (fun z => some (Value.int z.1)) hf) (congrArg (fun z => (σ, z.2, q)) hf).symm hQ
                        refine wi_lcmp_ne hC 240 d_MS_order_232 d_MS_order_233 (by decide) (fun h19 => ?_) (fun h19 => ?_)
                        · skip
                          refine wi_lload hC 1 d_MS_order_240 rfl ?_
                          refine wi_aload_n hC 6 d_MS_order_242 rfl rfl ?_
                          refine wg_MS_digits hC wd_867 d_MS_order_243 ?_
                          refine k_MS_lessSize hC  wd_859 (by decide) (Nat.le_of_ble_eq_true rfl) d_MS_order_246 ?_
                          refine wi_z_eq (b := (f_MS_lessSize v1 (gJ s2 34 42))) hC 258 d_MS_order_249 (by decide) (fun h20 => ?_) (fun h20 => ?_)
                          · skip
                            refine wi_iload hC 5 d_MS_order_258 rfl ?_
                            exact Jt5 t1 (by exact (Eq.trans eTt5 (Eq.trans (if_neg h19) (if_neg h20))))
                          · skip
                            refine wi_iload hC 5 d_MS_order_252 rfl ?_
                            refine wi_ineg hC d_MS_order_254 ?_
                            refine wi_goto hC 260 d_MS_order_255 (by decide) ?_
                            exact Jt5 (-t1) (by exact (Eq.trans eTt5 (Eq.trans (if_neg h19) (if_pos h20))))
                        · skip
                          refine wi_iconst hC 0 (by decide) d_MS_order_236 ?_
                          refine wi_goto hC 260 d_MS_order_237 (by decide) ?_
                          exact Jt5 0 (by exact (Eq.trans eTt5 (if_pos h19)))
                      · skip
                        refine wi_iload hC 0 d_MS_order_208 rfl ?_
                        refine wi_aload_n hC 6 d_MS_order_210 rfl rfl ?_
                        refine wg_MS_first hC wd_869 d_MS_order_211 ?_
                        obtain ⟨Tt6, eTt6⟩ : ∃ y : Int32, y = (
                                if (gI s2 35 42) ≤ v2 then
                                  t1
                                else
                                  -t1) := ⟨_, rfl⟩
                        have Jt6 : ∀ (t6 : Int32), Tt6 = t6 → WS p l e { frames := 2, cells := 0, slots := 0, locals := 44 } s m args below meth c Q E 11 225 [(10, .int v2), (8, .long v1), (7, .int (bI t4)), (6, .int (bI t3)), (5, .int t2), (4, .int t1), (0, .ref 42), (1, .int a1), (2, .int (bI false)), (3, .int a3)] [.int t6] (σ, s2, q) := by
                          intro t6  e_t6
                          rw [eTt6] at e_t6
                          have hf : f_MS_order_f τ a1 a3 = (t6, s2) := by subst e_t6; subst e_s2; subst e_v2; subst e_v1; subst e_s1; exact (Eq.trans hB2 (Eq.trans (if_neg h16) (Eq.trans (if_neg h17) (if_neg h18))))
                          exact wi_iret hC hr hk d_MS_order_225 (congrArg (fun z => some (Value.int z.1)) hf) (congrArg (fun z => (σ, z.2, q)) hf).symm hQ
                        refine wi_icmp_ge hC 223 d_MS_order_214 (by decide) (fun h21 => ?_) (fun h21 => ?_)
                        · skip
                          refine wi_iload hC 5 d_MS_order_223 rfl ?_
                          exact Jt6 t1 (by exact (Eq.trans eTt6 (if_pos h21)))
                        · skip
                          refine wi_iload hC 5 d_MS_order_217 rfl ?_
                          refine wi_ineg hC d_MS_order_219 ?_
                          refine wi_goto hC 225 d_MS_order_220 (by decide) ?_
                          exact Jt6 (-t1) (by exact (Eq.trans eTt6 (if_neg h21)))
                    · skip
                      exact B3   (by exact (Eq.trans hB2 (Eq.trans (if_neg h16) (if_pos h17))))
                refine wi_z_eq (b := t3) hC 153 d_MS_order_143 (by decide) (fun h14 => ?_) (fun h14 => ?_)
                · skip
                  exact B2   (by exact (Eq.trans hB1 (Eq.trans (if_pos h12) (Eq.trans (if_neg h13) (if_neg h14)))))
                · skip
                  refine wi_iload hC 0 d_MS_order_146 rfl ?_
                  refine wi_z_eq (b := t4) hC 153 d_MS_order_148 (by decide) (fun h15 => ?_) (fun h15 => ?_)
                  · skip
                    exact B2   (by exact (Eq.trans hB1 (Eq.trans (if_pos h12) (Eq.trans (if_neg h13) (Eq.trans (if_pos h14) (if_neg h15))))))
                  · skip
                    refine wi_iconst hC 0 (by decide) d_MS_order_151 ?_
                    have hf : f_MS_order_f τ a1 a3 = (0, τ) := by exact (Eq.trans hB1 (Eq.trans (if_pos h12) (Eq.trans (if_neg h13) (Eq.trans (if_pos h14) (if_pos h15)))))
                    exact wi_iret hC hr hk d_MS_order_152 (congrArg (fun z => some (Value.int z.1)) hf) (congrArg (fun z => (σ, z.2, q)) hf).symm hQ
            · skip
              refine wi_iload hC 3 d_MS_order_123 rfl ?_
              refine wi_iload hC 2 d_MS_order_125 rfl ?_
              obtain ⟨Tt8, eTt8⟩ : ∃ y : Int32, y = (
                      if t2 ≤ t1 then
                        1
                      else
                        (-1)) := ⟨_, rfl⟩
              have Jt8 : ∀ (t8 : Int32), Tt8 = t8 → WS p l e { frames := 2, cells := 0, slots := 0, locals := 44 } s m args below meth c Q E 11 135 [(7, .int (bI t4)), (6, .int (bI t3)), (5, .int t2), (4, .int t1), (0, .ref 42), (1, .int a1), (2, .int (bI false)), (3, .int a3)] [.int t8] (σ, τ, q) := by
                intro t8  e_t8
                rw [eTt8] at e_t8
                have hf : f_MS_order_f τ a1 a3 = (t8, τ) := by subst e_t8; exact (Eq.trans hB1 (if_neg h12))
                exact wi_iret hC hr hk d_MS_order_135 (congrArg (fun z => some (Value.int z.1)) hf) (congrArg (fun z => (σ, z.2, q)) hf).symm hQ
              refine wi_icmp_ge hC 134 d_MS_order_127 (by decide) (fun h23 => ?_) (fun h23 => ?_)
              · skip
                refine wi_iconst hC 1 (by decide) d_MS_order_134 ?_
                exact Jt8 1 (by exact (Eq.trans eTt8 (if_pos h23)))
              · skip
                refine wi_iconst hC (-1) (by decide) d_MS_order_130 ?_
                refine wi_goto hC 135 d_MS_order_131 (by decide) ?_
                exact Jt8 (-1) (by exact (Eq.trans eTt8 (if_neg h23)))
          refine wi_z_eq (b := t3) hC 116 d_MS_order_96 (by decide) (fun h9 => ?_) (fun h9 => ?_)
          · skip
            exact B1   (by subst e_t4; subst e_t3; subst e_t2; subst e_t1; exact (if_neg h9))
          · skip
            refine wi_iload hC 0 d_MS_order_99 rfl ?_
            refine wi_z_eq (b := t4) hC 116 d_MS_order_101 (by decide) (fun h10 => ?_) (fun h10 => ?_)
            · skip
              exact B1   (by subst e_t4; subst e_t3; subst e_t2; subst e_t1; exact (Eq.trans (if_pos h9) (if_neg h10)))
            · skip
              refine wi_aload_n hC 4 d_MS_order_104 rfl rfl ?_
              refine wi_sipush hC 4096 (by decide) d_MS_order_105 ?_
              refine k_MS_masked hC (by decide) wd_843 (by decide) (Nat.le_of_ble_eq_true rfl) d_MS_order_108 ?_
              refine wi_z_ne (b := (f_MS_masked τ 4096)) hC 116 d_MS_order_111 (by decide) (fun h11 => ?_) (fun h11 => ?_)
              · skip
                exact B1   (by subst e_t4; subst e_t3; subst e_t2; subst e_t1; exact (Eq.trans (if_pos h9) (Eq.trans (if_pos h10) (if_pos h11))))
              · skip
                refine wi_iconst hC 0 (by decide) d_MS_order_114 ?_
                have hf : f_MS_order_f τ a1 a3 = (0, τ) := by subst e_t4; subst e_t3; subst e_t2; subst e_t1; exact (Eq.trans (if_pos h9) (Eq.trans (if_pos h10) (if_neg h11)))
                exact wi_iret hC hr hk d_MS_order_115 (congrArg (fun z => some (Value.int z.1)) hf) (congrArg (fun z => (σ, z.2, q)) hf).symm hQ
        refine wi_icmp_ne hC 91 d_MS_order_84 (by decide) (fun h8 => ?_) (fun h8 => ?_)
        · skip
          refine wi_iconst hC 0 (by decide) d_MS_order_91 ?_
          exact Jt4 false (by exact (Eq.trans eTt4 (if_neg h8)))
        · skip
          refine wi_iconst hC 1 (by decide) d_MS_order_87 ?_
          refine wi_goto hC 92 d_MS_order_88 (by decide) ?_
          exact Jt4 true (by exact (Eq.trans eTt4 (if_pos h8)))
      refine wi_icmp_ne hC 71 d_MS_order_64 (by decide) (fun h6 => ?_) (fun h6 => ?_)
      · skip
        refine wi_iconst hC 0 (by decide) d_MS_order_71 ?_
        exact Jt3 false (by exact (Eq.trans eTt3 (if_neg h6)))
      · skip
        refine wi_iconst hC 1 (by decide) d_MS_order_67 ?_
        refine wi_goto hC 72 d_MS_order_68 (by decide) ?_
        exact Jt3 true (by exact (Eq.trans eTt3 (if_pos h6)))
    refine wi_z_eq (b := (f_MS_nothing τ a3)) hC 43 d_MS_order_36 (by decide) (fun h4 => ?_) (fun h4 => ?_)
    · skip
      refine wi_aload_n hC 1 d_MS_order_43 rfl rfl ?_
      refine wi_iload_n hC 4 d_MS_order_44 rfl rfl ?_
      refine k_MS_minus hC hq wd_860 (by decide) (Nat.le_of_ble_eq_true rfl) d_MS_order_45 ?_
      refine wi_z_eq (b := (f_MS_minus τ a3)) hC 55 d_MS_order_48 (by decide) (fun h5 => ?_) (fun h5 => ?_)
      · skip
        refine wi_iconst hC 1 (by decide) d_MS_order_55 ?_
        exact Jt2 1 (by exact (Eq.trans eTt2 (Eq.trans (if_neg h4) (if_neg h5))))
      · skip
        refine wi_iconst hC (-1) (by decide) d_MS_order_51 ?_
        refine wi_goto hC 56 d_MS_order_52 (by decide) ?_
        exact Jt2 (-1) (by exact (Eq.trans eTt2 (Eq.trans (if_neg h4) (if_pos h5))))
    · skip
      refine wi_iconst hC 0 (by decide) d_MS_order_39 ?_
      refine wi_goto hC 56 d_MS_order_40 (by decide) ?_
      exact Jt2 0 (by exact (Eq.trans eTt2 (if_pos h4)))
  refine wi_z_eq (b := (f_MS_nothing τ a1)) hC 12 d_MS_order_5 (by decide) (fun h1 => ?_) (fun h1 => ?_)
  · skip
    refine wi_aload_n hC 0 d_MS_order_12 rfl rfl ?_
    refine wi_iload_n hC 1 d_MS_order_13 rfl rfl ?_
    refine k_MS_minus hC hp wd_860 (by decide) (Nat.le_of_ble_eq_true rfl) d_MS_order_14 ?_
    refine wi_z_eq (b := (f_MS_minus τ a1)) hC 24 d_MS_order_17 (by decide) (fun h2 => ?_) (fun h2 => ?_)
    · skip
      refine wi_iconst hC 1 (by decide) d_MS_order_24 ?_
      exact Jt1 1 (by exact (Eq.trans eTt1 (Eq.trans (if_neg h1) (if_neg h2))))
    · skip
      refine wi_iconst hC (-1) (by decide) d_MS_order_20 ?_
      refine wi_goto hC 25 d_MS_order_21 (by decide) ?_
      exact Jt1 (-1) (by exact (Eq.trans eTt1 (Eq.trans (if_neg h1) (if_pos h2))))
  · skip
    refine wi_iconst hC 0 (by decide) d_MS_order_8 ?_
    refine wi_goto hC 25 d_MS_order_9 (by decide) ?_
    exact Jt1 0 (by exact (Eq.trans eTt1 (if_pos h1)))
theorem k_MS_order_f {p : Program} {l : Launch} {e : Env} {R : Room} {s : State} {m : MethodId} {args : Array Value} {below : List Frame} {meth : Method} {c : Code} {Q : State → Prop} {E : Ev} {nL pc index : Nat} {lv : List (Nat × Value)} {rest : List Value} {cc : ByteArray} {own : String} {σ τ : St} {q : Int64} {a1 : Int32} {a3 : Int32} (hC : Cx p s m args c cc nL own E)  (hp : vp_in a1 8) (hq : vp_in a3 8) (hl : Cond.methodLink own index y_MS_order ∈ WL) (hR : 2 + 1 ≤ R.frames ∧ 8 + (11 + 11) + 44 ≤ R.locals) (hs8 : (rest.map fun v => v.category).sum ≤ 8) (d : decode cc pc = .ok (.invokevirtual index, 3)) (k : WS p l e R s m args below meth c Q E nL (pc + 3) lv ((.int ((f_MS_order_f τ a1 a3).1)) :: rest) (σ, (f_MS_order_f τ a1 a3).2, q)) : WS p l e R s m args below meth c Q E nL pc lv (.int a3 :: .int (bI false) :: .int a1 :: .ref 42 :: rest) (σ, τ, q) := by
  exact wi_callV hC (n := 3) (vs := [.int a1, .int (bI false), .int a3]) (rest := rest) 42 12 (by decide) rfl rfl rfl (c_MS_order_f l E σ τ q a1 a3 hp hq) (by decide +kernel) wd_875 wd_809 wd_876 wd_877 ⟨rfl, rfl⟩ rfl rfl hl hR hs8 d k
set_option maxRecDepth 100000 in
set_option maxHeartbeats 400000 in
theorem c_MS_compared_z (l : Launch) (E : Ev) (σ τ : St) (q : Int64) (a1 : Int32) (hp : vp_in a1 8) : MF l y_MS_compared prog_15_method_30_code 6 (some .int) { frames := 3, cells := 0, slots := 0, locals := 74 } E [.ref 42, .int a1, .int (bI true), .int (-1)] (σ, τ, q) (some (.int ((f_MS_compared_z τ a1).1))) (σ, (f_MS_compared_z τ a1).2, q) := by
  refine MF_intro (lv0 := [(0, .ref 42), (1, .int a1), (2, .int (bI true)), (3, .int (-1))]) (by decide) wd_882 (Nat.le_of_ble_eq_true rfl) rfl ?_
  intro p e s m args below meth c Q hC hr hk hQ
  replace hC : Cx p s m args c prog_15_method_30_code 6 "PartnerStackModel$RealStepsModel" E := hC
  refine wi_aload_n hC 0 d_MS_compared_0 rfl rfl ?_
  refine k_MS_begin hC  wd_879 (by decide) (Nat.le_of_ble_eq_true rfl) d_MS_compared_1 ?_
  refine wi_nmM (fun s1 e_s1 => ?_)
  refine wi_aload_n hC 0 d_MS_compared_4 rfl rfl ?_
  refine wi_iload_n hC 1 d_MS_compared_5 rfl rfl ?_
  refine k_MS_kind hC hp wd_852 (by decide) (Nat.le_of_ble_eq_true rfl) d_MS_compared_6 ?_
  refine wi_iconst hC 4 (by decide) d_MS_compared_9 ?_
  obtain ⟨Tt1, eTt1⟩ : ∃ y : Bool, y = (
          if f_MS_kind s1 a1 = 4 then
            true
          else
            false) := ⟨_, rfl⟩
  have Jt1 : ∀ (t1 : Bool), Tt1 = t1 → WS p l e { frames := 3, cells := 0, slots := 0, locals := 74 } s m args below meth c Q E 6 18 [(0, .ref 42), (1, .int a1), (2, .int (bI true)), (3, .int (-1))] [.int (bI t1)] (σ, s1, q) := by
    intro t1  e_t1
    rw [eTt1] at e_t1
    refine wi_istore hC [(4, .int (bI t1)), (0, .ref 42), (1, .int a1), (2, .int (bI true)), (3, .int (-1))] d_MS_compared_18 (by decide) rfl ?_
    refine wi_iload_n hC 3 d_MS_compared_20 rfl rfl ?_
    refine wi_z_ne (b := true) hC 37 d_MS_compared_21 (by decide) (fun _ => ?_) (fun h2 => absurd (by decide) h2)
    refine wi_iconst hC 0 (by decide) d_MS_compared_37 ?_
    refine wi_istore hC [(5, .int 0), (4, .int (bI t1)), (0, .ref 42), (1, .int a1), (2, .int (bI true)), (3, .int (-1))] d_MS_compared_38 (by decide) rfl ?_
    refine wi_aload_n hC 2 d_MS_compared_40 rfl rfl ?_
    refine wi_iload_n hC 3 d_MS_compared_41 rfl rfl ?_
    refine wi_iload_n hC 4 d_MS_compared_42 rfl rfl ?_
    refine wi_z_eq (b := true) hC 50 d_MS_compared_43 (by decide) (fun h3 => absurd (by decide) h3) (fun _ => ?_)
    refine wi_iconst hC (-1) (by decide) d_MS_compared_46 ?_
    refine wi_goto hC 51 d_MS_compared_47 (by decide) ?_
    refine wi_aload_n hC 2 d_MS_compared_51 rfl rfl ?_
    refine wi_sipush hC 4096 (by decide) d_MS_compared_52 ?_
    refine k_MS_masked hC (by decide) wd_843 (by decide) (Nat.le_of_ble_eq_true rfl) d_MS_compared_55 ?_
    obtain ⟨Tt2, eTt2⟩ : ∃ y : Bool, y = (
            if f_MS_masked s1 4096 = true then
              true
            else
              if t1 = false then
                true
              else
                false) := ⟨_, rfl⟩
    have Jt2 : ∀ (t2 : Bool), Tt2 = t2 → WS p l e { frames := 3, cells := 0, slots := 0, locals := 74 } s m args below meth c Q E 6 73 [(5, .int 0), (4, .int (bI t1)), (0, .ref 42), (1, .int a1), (2, .int (bI true)), (3, .int (-1))] [.int (bI t2), .int (-1), .int a1, .ref 42] (σ, s1, q) := by
      intro t2  e_t2
      rw [eTt2] at e_t2
      refine k_MS_goesOn_n hC t2 rfl hp wd_880 (by decide) (Nat.le_of_ble_eq_true rfl) d_MS_compared_73 ?_
      obtain ⟨r1, e_r1⟩ : ∃ y : Bool × St, f_MS_goesOn_n s1 a1 t2 = y := ⟨_, rfl⟩
      rw [e_r1]
      refine wi_z_ne (b := r1.1) hC 92 d_MS_compared_76 (by decide) (fun h6 => ?_) (fun h6 => ?_)
      · skip
        refine wi_aload_n hC 2 d_MS_compared_92 rfl rfl ?_
        refine wi_iconst hC 1 (by decide) d_MS_compared_93 ?_
        refine wp_MS_answered hC true rfl wd_826 d_MS_compared_94 ?_
        refine wi_nmM (fun s2 e_s2 => ?_)
        refine wi_aload_n hC 2 d_MS_compared_97 rfl rfl ?_
        refine wi_iload_n hC 3 d_MS_compared_98 rfl rfl ?_
        refine wi_iload_n hC 4 d_MS_compared_99 rfl rfl ?_
        refine wi_iload_n hC 5 d_MS_compared_100 rfl rfl ?_
        refine k_MS_order_z hC hp wd_881 (by decide) (Nat.le_of_ble_eq_true rfl) d_MS_compared_101 ?_
        obtain ⟨r2, e_r2⟩ : ∃ y : Int32 × St, f_MS_order_z s2 a1 = y := ⟨_, rfl⟩
        rw [e_r2]
        have hf : f_MS_compared_z τ a1 = (r2.1, r2.2) := by subst e_r2; subst e_s2; subst e_r1; subst e_t2; subst e_t1; subst e_s1; exact (if_pos h6)
        exact wi_iret hC hr hk d_MS_compared_104 (congrArg (fun z => some (Value.int z.1)) hf) (congrArg (fun z => (σ, z.2, q)) hf).symm hQ
      · skip
        refine wi_aload_n hC 2 d_MS_compared_79 rfl rfl ?_
        refine wg_MS_answered hC wd_826 d_MS_compared_80 ?_
        obtain ⟨Tt3, eTt3⟩ : ∃ y : Int32, y = (
                if gZ r1.2 29 42 = true then
                  2
                else
                  3) := ⟨_, rfl⟩
        have Jt3 : ∀ (t3 : Int32), Tt3 = t3 → WS p l e { frames := 3, cells := 0, slots := 0, locals := 74 } s m args below meth c Q E 6 91 [(5, .int 0), (4, .int (bI t1)), (0, .ref 42), (1, .int a1), (2, .int (bI true)), (3, .int (-1))] [.int t3] (σ, r1.2, q) := by
          intro t3  e_t3
          rw [eTt3] at e_t3
          have hf : f_MS_compared_z τ a1 = (t3, r1.2) := by subst e_t3; subst e_r1; subst e_t2; subst e_t1; subst e_s1; exact (if_neg h6)
          exact wi_iret hC hr hk d_MS_compared_91 (congrArg (fun z => some (Value.int z.1)) hf) (congrArg (fun z => (σ, z.2, q)) hf).symm hQ
        refine wi_z_eq (b := (gZ r1.2 29 42)) hC 90 d_MS_compared_83 (by decide) (fun h7 => ?_) (fun h7 => ?_)
        · skip
          refine wi_iconst hC 3 (by decide) d_MS_compared_90 ?_
          exact Jt3 3 (by exact (Eq.trans eTt3 (if_neg h7)))
        · skip
          refine wi_iconst hC 2 (by decide) d_MS_compared_86 ?_
          refine wi_goto hC 91 d_MS_compared_87 (by decide) ?_
          exact Jt3 2 (by exact (Eq.trans eTt3 (if_pos h7)))
    refine wi_z_ne (b := (f_MS_masked s1 4096)) hC 68 d_MS_compared_58 (by decide) (fun h4 => ?_) (fun h4 => ?_)
    · skip
      refine wi_iconst hC 1 (by decide) d_MS_compared_68 ?_
      refine wi_goto hC 73 d_MS_compared_69 (by decide) ?_
      exact Jt2 true (by exact (Eq.trans eTt2 (if_pos h4)))
    · skip
      refine wi_iload hC 1 d_MS_compared_61 rfl ?_
      refine wi_iload hC 0 d_MS_compared_63 rfl ?_
      refine wi_zc_ne (a := t1) (b := false) hC 72 d_MS_compared_65 (by decide) (fun h5 => ?_) (fun h5 => ?_)
      · skip
        refine wi_iconst hC 0 (by decide) d_MS_compared_72 ?_
        exact Jt2 false (by exact (Eq.trans eTt2 (Eq.trans (if_neg h4) (if_neg h5))))
      · skip
        refine wi_iconst hC 1 (by decide) d_MS_compared_68 ?_
        refine wi_goto hC 73 d_MS_compared_69 (by decide) ?_
        exact Jt2 true (by exact (Eq.trans eTt2 (Eq.trans (if_neg h4) (if_pos h5))))
  refine wi_icmp_ne hC 17 d_MS_compared_10 (by decide) (fun h1 => ?_) (fun h1 => ?_)
  · skip
    refine wi_iconst hC 0 (by decide) d_MS_compared_17 ?_
    exact Jt1 false (by exact (Eq.trans eTt1 (if_neg h1)))
  · skip
    refine wi_iconst hC 1 (by decide) d_MS_compared_13 ?_
    refine wi_goto hC 18 d_MS_compared_14 (by decide) ?_
    exact Jt1 true (by exact (Eq.trans eTt1 (if_pos h1)))
theorem k_MS_compared_z {p : Program} {l : Launch} {e : Env} {R : Room} {s : State} {m : MethodId} {args : Array Value} {below : List Frame} {meth : Method} {c : Code} {Q : State → Prop} {E : Ev} {nL pc index : Nat} {lv : List (Nat × Value)} {rest : List Value} {cc : ByteArray} {own : String} {σ τ : St} {q : Int64} {a1 : Int32} (hC : Cx p s m args c cc nL own E)  (hp : vp_in a1 8) (hl : Cond.methodLink own index y_MS_compared ∈ WL) (hR : 3 + 1 ≤ R.frames ∧ 8 + (6 + 11) + 74 ≤ R.locals) (hs8 : (rest.map fun v => v.category).sum ≤ 8) (d : decode cc pc = .ok (.invokevirtual index, 3)) (k : WS p l e R s m args below meth c Q E nL (pc + 3) lv ((.int ((f_MS_compared_z τ a1).1)) :: rest) (σ, (f_MS_compared_z τ a1).2, q)) : WS p l e R s m args below meth c Q E nL pc lv (.int (-1) :: .int (bI true) :: .int a1 :: .ref 42 :: rest) (σ, τ, q) := by
  exact wi_callV hC (n := 3) (vs := [.int a1, .int (bI true), .int (-1)]) (rest := rest) 42 12 (by decide) rfl rfl rfl (c_MS_compared_z l E σ τ q a1 hp) (by decide +kernel) wd_882 wd_809 wd_883 wd_884 ⟨rfl, rfl⟩ rfl rfl hl hR hs8 d k
set_option maxRecDepth 100000 in
set_option maxHeartbeats 400000 in
theorem c_MS_compared_f (l : Launch) (E : Ev) (σ τ : St) (q : Int64) (a1 : Int32) (a3 : Int32) (hp : vp_in a1 8) (hq : vp_in a3 8) : MF l y_MS_compared prog_15_method_30_code 6 (some .int) { frames := 3, cells := 0, slots := 0, locals := 74 } E [.ref 42, .int a1, .int (bI false), .int a3] (σ, τ, q) (some (.int ((f_MS_compared_f τ a1 a3).1))) (σ, (f_MS_compared_f τ a1 a3).2, q) := by
  refine MF_intro (lv0 := [(0, .ref 42), (1, .int a1), (2, .int (bI false)), (3, .int a3)]) (by decide) wd_882 (Nat.le_of_ble_eq_true rfl) rfl ?_
  intro p e s m args below meth c Q hC hr hk hQ
  replace hC : Cx p s m args c prog_15_method_30_code 6 "PartnerStackModel$RealStepsModel" E := hC
  refine wi_aload_n hC 0 d_MS_compared_0 rfl rfl ?_
  refine k_MS_begin hC  wd_879 (by decide) (Nat.le_of_ble_eq_true rfl) d_MS_compared_1 ?_
  refine wi_nmM (fun s1 e_s1 => ?_)
  refine wi_aload_n hC 0 d_MS_compared_4 rfl rfl ?_
  refine wi_iload_n hC 1 d_MS_compared_5 rfl rfl ?_
  refine k_MS_kind hC hp wd_852 (by decide) (Nat.le_of_ble_eq_true rfl) d_MS_compared_6 ?_
  refine wi_iconst hC 4 (by decide) d_MS_compared_9 ?_
  obtain ⟨Tt1, eTt1⟩ : ∃ y : Bool, y = (
          if f_MS_kind s1 a1 = 4 then
            true
          else
            false) := ⟨_, rfl⟩
  have Jt1 : ∀ (t1 : Bool), Tt1 = t1 → WS p l e { frames := 3, cells := 0, slots := 0, locals := 74 } s m args below meth c Q E 6 18 [(0, .ref 42), (1, .int a1), (2, .int (bI false)), (3, .int a3)] [.int (bI t1)] (σ, s1, q) := by
    intro t1  e_t1
    rw [eTt1] at e_t1
    refine wi_istore hC [(4, .int (bI t1)), (0, .ref 42), (1, .int a1), (2, .int (bI false)), (3, .int a3)] d_MS_compared_18 (by decide) rfl ?_
    refine wi_iload_n hC 3 d_MS_compared_20 rfl rfl ?_
    refine wi_z_ne (b := false) hC 37 d_MS_compared_21 (by decide) (fun h2 => absurd h2 (by decide)) (fun _ => ?_)
    refine wi_aload_n hC 1 d_MS_compared_24 rfl rfl ?_
    refine wi_iload_n hC 4 d_MS_compared_25 rfl rfl ?_
    refine k_MS_kind hC hq wd_852 (by decide) (Nat.le_of_ble_eq_true rfl) d_MS_compared_26 ?_
    refine wi_iconst hC 4 (by decide) d_MS_compared_29 ?_
    obtain ⟨Tt2, eTt2⟩ : ∃ y : Bool, y = (
            if f_MS_kind s1 a3 = 4 then
              true
            else
              false) := ⟨_, rfl⟩
    have Jt2 : ∀ (t2 : Bool), Tt2 = t2 → WS p l e { frames := 3, cells := 0, slots := 0, locals := 74 } s m args below meth c Q E 6 38 [(4, .int (bI t1)), (0, .ref 42), (1, .int a1), (2, .int (bI false)), (3, .int a3)] [.int (bI t2)] (σ, s1, q) := by
      intro t2  e_t2
      rw [eTt2] at e_t2
      refine wi_istore hC [(5, .int (bI t2)), (4, .int (bI t1)), (0, .ref 42), (1, .int a1), (2, .int (bI false)), (3, .int a3)] d_MS_compared_38 (by decide) rfl ?_
      refine wi_aload_n hC 2 d_MS_compared_40 rfl rfl ?_
      refine wi_iload_n hC 3 d_MS_compared_41 rfl rfl ?_
      refine wi_iload_n hC 4 d_MS_compared_42 rfl rfl ?_
      refine wi_z_eq (b := false) hC 50 d_MS_compared_43 (by decide) (fun _ => ?_) (fun h4 => absurd h4 (by decide))
      refine wi_iload_n hC 5 d_MS_compared_50 rfl rfl ?_
      refine wi_aload_n hC 2 d_MS_compared_51 rfl rfl ?_
      refine wi_sipush hC 4096 (by decide) d_MS_compared_52 ?_
      refine k_MS_masked hC (by decide) wd_843 (by decide) (Nat.le_of_ble_eq_true rfl) d_MS_compared_55 ?_
      obtain ⟨Tt3, eTt3⟩ : ∃ y : Bool, y = (
              if f_MS_masked s1 4096 = true then
                true
              else
                if t1 = t2 then
                  true
                else
                  false) := ⟨_, rfl⟩
      have Jt3 : ∀ (t3 : Bool), Tt3 = t3 → WS p l e { frames := 3, cells := 0, slots := 0, locals := 74 } s m args below meth c Q E 6 73 [(5, .int (bI t2)), (4, .int (bI t1)), (0, .ref 42), (1, .int a1), (2, .int (bI false)), (3, .int a3)] [.int (bI t3), .int a3, .int a1, .ref 42] (σ, s1, q) := by
        intro t3  e_t3
        rw [eTt3] at e_t3
        refine k_MS_goesOn hC t3 rfl hp hq wd_880 (by decide) (Nat.le_of_ble_eq_true rfl) d_MS_compared_73 ?_
        obtain ⟨r1, e_r1⟩ : ∃ y : Bool × St, f_MS_goesOn s1 a1 a3 t3 = y := ⟨_, rfl⟩
        rw [e_r1]
        refine wi_z_ne (b := r1.1) hC 92 d_MS_compared_76 (by decide) (fun h7 => ?_) (fun h7 => ?_)
        · skip
          refine wi_aload_n hC 2 d_MS_compared_92 rfl rfl ?_
          refine wi_iconst hC 1 (by decide) d_MS_compared_93 ?_
          refine wp_MS_answered hC true rfl wd_826 d_MS_compared_94 ?_
          refine wi_nmM (fun s2 e_s2 => ?_)
          refine wi_aload_n hC 2 d_MS_compared_97 rfl rfl ?_
          refine wi_iload_n hC 3 d_MS_compared_98 rfl rfl ?_
          refine wi_iload_n hC 4 d_MS_compared_99 rfl rfl ?_
          refine wi_iload_n hC 5 d_MS_compared_100 rfl rfl ?_
          refine k_MS_order_f hC hp hq wd_881 (by decide) (Nat.le_of_ble_eq_true rfl) d_MS_compared_101 ?_
          obtain ⟨r2, e_r2⟩ : ∃ y : Int32 × St, f_MS_order_f s2 a1 a3 = y := ⟨_, rfl⟩
          rw [e_r2]
          have hf : f_MS_compared_f τ a1 a3 = (r2.1, r2.2) := by subst e_r2; subst e_s2; subst e_r1; subst e_t3; subst e_t2; subst e_t1; subst e_s1; exact (if_pos h7)
          exact wi_iret hC hr hk d_MS_compared_104 (congrArg (fun z => some (Value.int z.1)) hf) (congrArg (fun z => (σ, z.2, q)) hf).symm hQ
        · skip
          refine wi_aload_n hC 2 d_MS_compared_79 rfl rfl ?_
          refine wg_MS_answered hC wd_826 d_MS_compared_80 ?_
          obtain ⟨Tt4, eTt4⟩ : ∃ y : Int32, y = (
                  if gZ r1.2 29 42 = true then
                    2
                  else
                    3) := ⟨_, rfl⟩
          have Jt4 : ∀ (t4 : Int32), Tt4 = t4 → WS p l e { frames := 3, cells := 0, slots := 0, locals := 74 } s m args below meth c Q E 6 91 [(5, .int (bI t2)), (4, .int (bI t1)), (0, .ref 42), (1, .int a1), (2, .int (bI false)), (3, .int a3)] [.int t4] (σ, r1.2, q) := by
            intro t4  e_t4
            rw [eTt4] at e_t4
            have hf : f_MS_compared_f τ a1 a3 = (t4, r1.2) := by subst e_t4; subst e_r1; subst e_t3; subst e_t2; subst e_t1; subst e_s1; exact (if_neg h7)
            exact wi_iret hC hr hk d_MS_compared_91 (congrArg (fun z => some (Value.int z.1)) hf) (congrArg (fun z => (σ, z.2, q)) hf).symm hQ
          refine wi_z_eq (b := (gZ r1.2 29 42)) hC 90 d_MS_compared_83 (by decide) (fun h8 => ?_) (fun h8 => ?_)
          · skip
            refine wi_iconst hC 3 (by decide) d_MS_compared_90 ?_
            exact Jt4 3 (by exact (Eq.trans eTt4 (if_neg h8)))
          · skip
            refine wi_iconst hC 2 (by decide) d_MS_compared_86 ?_
            refine wi_goto hC 91 d_MS_compared_87 (by decide) ?_
            exact Jt4 2 (by exact (Eq.trans eTt4 (if_pos h8)))
      refine wi_z_ne (b := (f_MS_masked s1 4096)) hC 68 d_MS_compared_58 (by decide) (fun h5 => ?_) (fun h5 => ?_)
      · skip
        refine wi_iconst hC 1 (by decide) d_MS_compared_68 ?_
        refine wi_goto hC 73 d_MS_compared_69 (by decide) ?_
        exact Jt3 true (by exact (Eq.trans eTt3 (if_pos h5)))
      · skip
        refine wi_iload hC 1 d_MS_compared_61 rfl ?_
        refine wi_iload hC 0 d_MS_compared_63 rfl ?_
        refine wi_zc_ne (a := t1) (b := t2) hC 72 d_MS_compared_65 (by decide) (fun h6 => ?_) (fun h6 => ?_)
        · skip
          refine wi_iconst hC 0 (by decide) d_MS_compared_72 ?_
          exact Jt3 false (by exact (Eq.trans eTt3 (Eq.trans (if_neg h5) (if_neg h6))))
        · skip
          refine wi_iconst hC 1 (by decide) d_MS_compared_68 ?_
          refine wi_goto hC 73 d_MS_compared_69 (by decide) ?_
          exact Jt3 true (by exact (Eq.trans eTt3 (Eq.trans (if_neg h5) (if_pos h6))))
    refine wi_icmp_ne hC 37 d_MS_compared_30 (by decide) (fun h3 => ?_) (fun h3 => ?_)
    · skip
      refine wi_iconst hC 0 (by decide) d_MS_compared_37 ?_
      exact Jt2 false (by exact (Eq.trans eTt2 (if_neg h3)))
    · skip
      refine wi_iconst hC 1 (by decide) d_MS_compared_33 ?_
      refine wi_goto hC 38 d_MS_compared_34 (by decide) ?_
      exact Jt2 true (by exact (Eq.trans eTt2 (if_pos h3)))
  refine wi_icmp_ne hC 17 d_MS_compared_10 (by decide) (fun h1 => ?_) (fun h1 => ?_)
  · skip
    refine wi_iconst hC 0 (by decide) d_MS_compared_17 ?_
    exact Jt1 false (by exact (Eq.trans eTt1 (if_neg h1)))
  · skip
    refine wi_iconst hC 1 (by decide) d_MS_compared_13 ?_
    refine wi_goto hC 18 d_MS_compared_14 (by decide) ?_
    exact Jt1 true (by exact (Eq.trans eTt1 (if_pos h1)))
theorem k_MS_compared_f {p : Program} {l : Launch} {e : Env} {R : Room} {s : State} {m : MethodId} {args : Array Value} {below : List Frame} {meth : Method} {c : Code} {Q : State → Prop} {E : Ev} {nL pc index : Nat} {lv : List (Nat × Value)} {rest : List Value} {cc : ByteArray} {own : String} {σ τ : St} {q : Int64} {a1 : Int32} {a3 : Int32} (hC : Cx p s m args c cc nL own E)  (hp : vp_in a1 8) (hq : vp_in a3 8) (hl : Cond.methodLink own index y_MS_compared ∈ WL) (hR : 3 + 1 ≤ R.frames ∧ 8 + (6 + 11) + 74 ≤ R.locals) (hs8 : (rest.map fun v => v.category).sum ≤ 8) (d : decode cc pc = .ok (.invokevirtual index, 3)) (k : WS p l e R s m args below meth c Q E nL (pc + 3) lv ((.int ((f_MS_compared_f τ a1 a3).1)) :: rest) (σ, (f_MS_compared_f τ a1 a3).2, q)) : WS p l e R s m args below meth c Q E nL pc lv (.int a3 :: .int (bI false) :: .int a1 :: .ref 42 :: rest) (σ, τ, q) := by
  exact wi_callV hC (n := 3) (vs := [.int a1, .int (bI false), .int a3]) (rest := rest) 42 12 (by decide) rfl rfl rfl (c_MS_compared_f l E σ τ q a1 a3 hp hq) (by decide +kernel) wd_882 wd_809 wd_883 wd_884 ⟨rfl, rfl⟩ rfl rfl hl hR hs8 d k
set_option maxRecDepth 100000 in
set_option maxHeartbeats 400000 in
theorem c_MS_test (l : Launch) (E : Ev) (σ τ : St) (q : Int64) (a1 : Int32) (hp : vp_in a1 8) : MF l y_MS_test prog_15_method_32_code 2 (some .int) { frames := 4, cells := 0, slots := 0, locals := 99 } E [.ref 42, .int a1] (σ, τ, q) (some (.int ((f_MS_test τ a1).1))) (σ, (f_MS_test τ a1).2, q) := by
  refine MF_intro (lv0 := [(0, .ref 42), (1, .int a1)]) (by decide) wd_886 (Nat.le_of_ble_eq_true rfl) rfl ?_
  intro p e s m args below meth c Q hC hr hk hQ
  replace hC : Cx p s m args c prog_15_method_32_code 2 "PartnerStackModel$RealStepsModel" E := hC
  refine wi_aload_n hC 0 d_MS_test_0 rfl rfl ?_
  refine wi_iload_n hC 1 d_MS_test_1 rfl rfl ?_
  refine k_MS_none hC  wd_814 (by decide) (Nat.le_of_ble_eq_true rfl) d_MS_test_2 ?_
  obtain ⟨Tt1, eTt1⟩ : ∃ y : Bool, y = (
          if f_MS_none a1 = true then
            true
          else
            false) := ⟨_, rfl⟩
  have Jt1 : ∀ (t1 : Bool), Tt1 = t1 → WS p l e { frames := 4, cells := 0, slots := 0, locals := 99 } s m args below meth c Q E 2 13 [(0, .ref 42), (1, .int a1)] [.int (bI t1), .ref 42] (σ, τ, q) := by
    intro t1  e_t1
    rw [eTt1] at e_t1
    refine wp_MS_code hC wd_806 d_MS_test_13 ?_
    refine wi_nmM (fun s1 e_s1 => ?_)
    refine wi_aload_n hC 0 d_MS_test_16 rfl rfl ?_
    refine wg_MS_code hC wd_806 d_MS_test_17 ?_
    obtain ⟨Tt2, eTt2⟩ : ∃ y : Int32 × St, y = (
            if (gI s1 26 42) ≤ 0 then
              let r1 : Int32 × St := f_MS_compared_z s1 a1
              (r1.1, r1.2)
            else
              (0, s1)) := ⟨_, rfl⟩
    have Jt2 : ∀ (t2 : Int32 × St), Tt2 = t2 → WS p l e { frames := 4, cells := 0, slots := 0, locals := 99 } s m args below meth c Q E 2 34 [(0, .ref 42), (1, .int a1)] [.int t2.1] (σ, t2.2, q) := by
      intro t2  e_t2
      rw [eTt2] at e_t2
      have hf : f_MS_test τ a1 = (t2.1, t2.2) := by subst e_t2; subst e_s1; subst e_t1; exact rfl
      exact wi_iret hC hr hk d_MS_test_34 (congrArg (fun z => some (Value.int z.1)) hf) (congrArg (fun z => (σ, z.2, q)) hf).symm hQ
    refine wi_if_le hC 27 d_MS_test_20 (by decide) (fun h2 => ?_) (fun h2 => ?_)
    · skip
      refine wi_aload_n hC 0 d_MS_test_27 rfl rfl ?_
      refine wi_iload_n hC 1 d_MS_test_28 rfl rfl ?_
      refine wi_iconst hC 1 (by decide) d_MS_test_29 ?_
      refine wi_iconst hC (-1) (by decide) d_MS_test_30 ?_
      refine k_MS_compared_z hC hp wd_885 (by decide) (Nat.le_of_ble_eq_true rfl) d_MS_test_31 ?_
      obtain ⟨r1, e_r1⟩ : ∃ y : Int32 × St, f_MS_compared_z s1 a1 = y := ⟨_, rfl⟩
      rw [e_r1]
      exact Jt2 (r1.1, r1.2) (by subst e_r1; exact (Eq.trans eTt2 (if_pos h2)))
    · skip
      refine wi_iconst hC 0 (by decide) d_MS_test_23 ?_
      refine wi_goto hC 34 d_MS_test_24 (by decide) ?_
      exact Jt2 (0, s1) (by exact (Eq.trans eTt2 (if_neg h2)))
  refine wi_z_eq (b := (f_MS_none a1)) hC 12 d_MS_test_5 (by decide) (fun h1 => ?_) (fun h1 => ?_)
  · skip
    refine wi_iconst hC 0 (by decide) d_MS_test_12 ?_
    exact Jt1 false (by exact (Eq.trans eTt1 (if_neg h1)))
  · skip
    refine wi_iconst hC 1 (by decide) d_MS_test_8 ?_
    refine wi_goto hC 13 d_MS_test_9 (by decide) ?_
    exact Jt1 true (by exact (Eq.trans eTt1 (if_pos h1)))
theorem k_MS_test {p : Program} {l : Launch} {e : Env} {R : Room} {s : State} {m : MethodId} {args : Array Value} {below : List Frame} {meth : Method} {c : Code} {Q : State → Prop} {E : Ev} {nL pc index : Nat} {lv : List (Nat × Value)} {rest : List Value} {cc : ByteArray} {own : String} {σ τ : St} {q : Int64} {a1 : Int32} (hC : Cx p s m args c cc nL own E)  (hp : vp_in a1 8) (hl : Cond.methodLink own index y_MS_test ∈ WL) (hR : 4 + 1 ≤ R.frames ∧ 8 + (2 + 11) + 99 ≤ R.locals) (hs8 : (rest.map fun v => v.category).sum ≤ 8) (d : decode cc pc = .ok (.invokevirtual index, 3)) (k : WS p l e R s m args below meth c Q E nL (pc + 3) lv ((.int ((f_MS_test τ a1).1)) :: rest) (σ, (f_MS_test τ a1).2, q)) : WS p l e R s m args below meth c Q E nL pc lv (.int a1 :: .ref 42 :: rest) (σ, τ, q) := by
  exact wi_callV hC (n := 1) (vs := [.int a1]) (rest := rest) 42 12 (by decide) rfl rfl rfl (c_MS_test l E σ τ q a1 hp) (by decide +kernel) wd_886 wd_809 wd_887 wd_888 ⟨rfl, rfl⟩ rfl rfl hl hR hs8 d k
set_option maxRecDepth 100000 in
set_option maxHeartbeats 400000 in
theorem c_MS_compare (l : Launch) (E : Ev) (σ τ : St) (q : Int64) (a1 : Int32) (a2 : Int32) (hp : vp_in a1 8) (hq : vp_in a2 8) : MF l y_MS_compare prog_15_method_31_code 3 (some .int) { frames := 4, cells := 0, slots := 0, locals := 99 } E [.ref 42, .int a1, .int a2] (σ, τ, q) (some (.int ((f_MS_compare τ a1 a2).1))) (σ, (f_MS_compare τ a1 a2).2, q) := by
  refine MF_intro (lv0 := [(0, .ref 42), (1, .int a1), (2, .int a2)]) (by decide) wd_889 (Nat.le_of_ble_eq_true rfl) rfl ?_
  intro p e s m args below meth c Q hC hr hk hQ
  replace hC : Cx p s m args c prog_15_method_31_code 3 "PartnerStackModel$RealStepsModel" E := hC
  refine wi_aload_n hC 0 d_MS_compare_0 rfl rfl ?_
  refine wi_iload_n hC 1 d_MS_compare_1 rfl rfl ?_
  refine k_MS_none hC  wd_814 (by decide) (Nat.le_of_ble_eq_true rfl) d_MS_compare_2 ?_
  obtain ⟨Tt1, eTt1⟩ : ∃ y : Bool, y = (
          if f_MS_none a1 = true then
            true
          else
            if f_MS_none a2 = true then
              true
            else
              false) := ⟨_, rfl⟩
  have Jt1 : ∀ (t1 : Bool), Tt1 = t1 → WS p l e { frames := 4, cells := 0, slots := 0, locals := 99 } s m args below meth c Q E 3 20 [(0, .ref 42), (1, .int a1), (2, .int a2)] [.int (bI t1), .ref 42] (σ, τ, q) := by
    intro t1  e_t1
    rw [eTt1] at e_t1
    refine wp_MS_code hC wd_806 d_MS_compare_20 ?_
    refine wi_nmM (fun s1 e_s1 => ?_)
    refine wi_aload_n hC 0 d_MS_compare_23 rfl rfl ?_
    refine wg_MS_code hC wd_806 d_MS_compare_24 ?_
    obtain ⟨Tt2, eTt2⟩ : ∃ y : Int32 × St, y = (
            if (gI s1 26 42) ≤ 0 then
              let r1 : Int32 × St := f_MS_compared_f s1 a1 a2
              (r1.1, r1.2)
            else
              (0, s1)) := ⟨_, rfl⟩
    have Jt2 : ∀ (t2 : Int32 × St), Tt2 = t2 → WS p l e { frames := 4, cells := 0, slots := 0, locals := 99 } s m args below meth c Q E 3 41 [(0, .ref 42), (1, .int a1), (2, .int a2)] [.int t2.1] (σ, t2.2, q) := by
      intro t2  e_t2
      rw [eTt2] at e_t2
      have hf : f_MS_compare τ a1 a2 = (t2.1, t2.2) := by subst e_t2; subst e_s1; subst e_t1; exact rfl
      exact wi_iret hC hr hk d_MS_compare_41 (congrArg (fun z => some (Value.int z.1)) hf) (congrArg (fun z => (σ, z.2, q)) hf).symm hQ
    refine wi_if_le hC 34 d_MS_compare_27 (by decide) (fun h3 => ?_) (fun h3 => ?_)
    · skip
      refine wi_aload_n hC 0 d_MS_compare_34 rfl rfl ?_
      refine wi_iload_n hC 1 d_MS_compare_35 rfl rfl ?_
      refine wi_iconst hC 0 (by decide) d_MS_compare_36 ?_
      refine wi_iload_n hC 2 d_MS_compare_37 rfl rfl ?_
      refine k_MS_compared_f hC hp hq wd_885 (by decide) (Nat.le_of_ble_eq_true rfl) d_MS_compare_38 ?_
      obtain ⟨r1, e_r1⟩ : ∃ y : Int32 × St, f_MS_compared_f s1 a1 a2 = y := ⟨_, rfl⟩
      rw [e_r1]
      exact Jt2 (r1.1, r1.2) (by subst e_r1; exact (Eq.trans eTt2 (if_pos h3)))
    · skip
      refine wi_iconst hC 0 (by decide) d_MS_compare_30 ?_
      refine wi_goto hC 41 d_MS_compare_31 (by decide) ?_
      exact Jt2 (0, s1) (by exact (Eq.trans eTt2 (if_neg h3)))
  refine wi_z_ne (b := (f_MS_none a1)) hC 15 d_MS_compare_5 (by decide) (fun h1 => ?_) (fun h1 => ?_)
  · skip
    refine wi_iconst hC 1 (by decide) d_MS_compare_15 ?_
    refine wi_goto hC 20 d_MS_compare_16 (by decide) ?_
    exact Jt1 true (by exact (Eq.trans eTt1 (if_pos h1)))
  · skip
    refine wi_iload_n hC 2 d_MS_compare_8 rfl rfl ?_
    refine k_MS_none hC  wd_814 (by decide) (Nat.le_of_ble_eq_true rfl) d_MS_compare_9 ?_
    refine wi_z_eq (b := (f_MS_none a2)) hC 19 d_MS_compare_12 (by decide) (fun h2 => ?_) (fun h2 => ?_)
    · skip
      refine wi_iconst hC 0 (by decide) d_MS_compare_19 ?_
      exact Jt1 false (by exact (Eq.trans eTt1 (Eq.trans (if_neg h1) (if_neg h2))))
    · skip
      refine wi_iconst hC 1 (by decide) d_MS_compare_15 ?_
      refine wi_goto hC 20 d_MS_compare_16 (by decide) ?_
      exact Jt1 true (by exact (Eq.trans eTt1 (Eq.trans (if_neg h1) (if_pos h2))))
theorem k_MS_compare {p : Program} {l : Launch} {e : Env} {R : Room} {s : State} {m : MethodId} {args : Array Value} {below : List Frame} {meth : Method} {c : Code} {Q : State → Prop} {E : Ev} {nL pc index : Nat} {lv : List (Nat × Value)} {rest : List Value} {cc : ByteArray} {own : String} {σ τ : St} {q : Int64} {a1 : Int32} {a2 : Int32} (hC : Cx p s m args c cc nL own E)  (hp : vp_in a1 8) (hq : vp_in a2 8) (hl : Cond.methodLink own index y_MS_compare ∈ WL) (hR : 4 + 1 ≤ R.frames ∧ 8 + (3 + 11) + 99 ≤ R.locals) (hs8 : (rest.map fun v => v.category).sum ≤ 8) (d : decode cc pc = .ok (.invokevirtual index, 3)) (k : WS p l e R s m args below meth c Q E nL (pc + 3) lv ((.int ((f_MS_compare τ a1 a2).1)) :: rest) (σ, (f_MS_compare τ a1 a2).2, q)) : WS p l e R s m args below meth c Q E nL pc lv (.int a2 :: .int a1 :: .ref 42 :: rest) (σ, τ, q) := by
  exact wi_callV hC (n := 2) (vs := [.int a1, .int a2]) (rest := rest) 42 12 (by decide) rfl rfl rfl (c_MS_compare l E σ τ q a1 a2 hp hq) (by decide +kernel) wd_889 wd_809 wd_890 wd_891 ⟨rfl, rfl⟩ rfl rfl hl hR hs8 d k
set_option maxRecDepth 100000 in
set_option maxHeartbeats 400000 in
theorem c_MS_told (l : Launch) (E : Ev) (σ τ : St) (q : Int64) (a1 : Int32)  : MF l y_MS_told prog_15_method_34_code 2 (some .int) { frames := 0, cells := 0, slots := 0, locals := 0 } E [.ref 42, .int a1] (σ, τ, q) (some (.int ((f_MS_told τ a1).1))) (σ, (f_MS_told τ a1).2, q) := by
  refine MF_intro (lv0 := [(0, .ref 42), (1, .int a1)]) (by decide) wd_894 (Nat.le_of_ble_eq_true rfl) rfl ?_
  intro p e s m args below meth c Q hC hr hk hQ
  replace hC : Cx p s m args c prog_15_method_34_code 2 "PartnerStackModel$RealStepsModel" E := hC
  refine wi_aload_n hC 0 d_MS_told_0 rfl rfl ?_
  refine wi_iload_n hC 1 d_MS_told_1 rfl rfl ?_
  obtain ⟨Tt1, eTt1⟩ : ∃ y : Bool, y = (
          if a1 < 0 then
            true
          else
            if a1 ≤ 3 then
              false
            else
              true) := ⟨_, rfl⟩
  have Jt1 : ∀ (t1 : Bool), Tt1 = t1 → WS p l e { frames := 0, cells := 0, slots := 0, locals := 0 } s m args below meth c Q E 2 15 [(0, .ref 42), (1, .int a1)] [.int (bI t1), .ref 42] (σ, τ, q) := by
    intro t1  e_t1
    rw [eTt1] at e_t1
    refine wp_MS_code hC wd_806 d_MS_told_15 ?_
    refine wi_nmM (fun s1 e_s1 => ?_)
    refine wi_aload_n hC 0 d_MS_told_18 rfl rfl ?_
    refine wg_MS_code hC wd_806 d_MS_told_19 ?_
    refine wi_if_le hC 27 d_MS_told_22 (by decide) (fun h3 => ?_) (fun h3 => ?_)
    · skip
      refine wi_iload_n hC 1 d_MS_told_27 rfl rfl ?_
      obtain ⟨Tt2, eTt2⟩ : ∃ y : Int32, y = (
              if a1 = 0 then
                gI s1 28 42
              else
                if a1 = 1 then
                  if gZ s1 29 42 = true then
                    1
                  else
                    0
                else
                  if a1 = 2 then
                    gI s1 30 42
                  else
                    if gZ s1 31 42 = true then
                      1
                    else
                      0) := ⟨_, rfl⟩
      have Jt2 : ∀ (t2 : Int32), Tt2 = t2 → WS p l e { frames := 0, cells := 0, slots := 0, locals := 0 } s m args below meth c Q E 2 82 [(0, .ref 42), (1, .int a1)] [.int t2] (σ, s1, q) := by
        intro t2  e_t2
        rw [eTt2] at e_t2
        have hf : f_MS_told τ a1 = (t2, s1) := by subst e_t2; subst e_s1; subst e_t1; exact (if_pos h3)
        exact wi_iret hC hr hk d_MS_told_82 (congrArg (fun z => some (Value.int z.1)) hf) (congrArg (fun z => (σ, z.2, q)) hf).symm hQ
      refine wi_if_ne hC 38 d_MS_told_28 (by decide) (fun h4 => ?_) (fun h4 => ?_)
      · skip
        refine wi_iload_n hC 1 d_MS_told_38 rfl rfl ?_
        refine wi_iconst hC 1 (by decide) d_MS_told_39 ?_
        refine wi_icmp_ne hC 58 d_MS_told_40 (by decide) (fun h5 => ?_) (fun h5 => ?_)
        · skip
          refine wi_iload_n hC 1 d_MS_told_58 rfl rfl ?_
          refine wi_iconst hC 2 (by decide) d_MS_told_59 ?_
          refine wi_icmp_ne hC 70 d_MS_told_60 (by decide) (fun h6 => ?_) (fun h6 => ?_)
          · skip
            refine wi_aload_n hC 0 d_MS_told_70 rfl rfl ?_
            refine wg_MS_partial hC wd_892 d_MS_told_71 ?_
            refine wi_z_eq (b := (gZ s1 31 42)) hC 81 d_MS_told_74 (by decide) (fun h7 => ?_) (fun h7 => ?_)
            · skip
              refine wi_iconst hC 0 (by decide) d_MS_told_81 ?_
              exact Jt2 0 (by exact (Eq.trans eTt2 (Eq.trans (if_neg h4) (Eq.trans (if_neg h5) (Eq.trans (if_neg h6) (if_neg h7))))))
            · skip
              refine wi_iconst hC 1 (by decide) d_MS_told_77 ?_
              refine wi_goto hC 82 d_MS_told_78 (by decide) ?_
              exact Jt2 1 (by exact (Eq.trans eTt2 (Eq.trans (if_neg h4) (Eq.trans (if_neg h5) (Eq.trans (if_neg h6) (if_pos h7))))))
          · skip
            refine wi_aload_n hC 0 d_MS_told_63 rfl rfl ?_
            refine wg_MS_quotient hC wd_893 d_MS_told_64 ?_
            refine wi_goto hC 82 d_MS_told_67 (by decide) ?_
            exact Jt2 (gI s1 30 42) (by exact (Eq.trans eTt2 (Eq.trans (if_neg h4) (Eq.trans (if_neg h5) (if_pos h6)))))
        · skip
          refine wi_aload_n hC 0 d_MS_told_43 rfl rfl ?_
          refine wg_MS_answered hC wd_826 d_MS_told_44 ?_
          refine wi_z_eq (b := (gZ s1 29 42)) hC 54 d_MS_told_47 (by decide) (fun h8 => ?_) (fun h8 => ?_)
          · skip
            refine wi_iconst hC 0 (by decide) d_MS_told_54 ?_
            refine wi_goto hC 82 d_MS_told_55 (by decide) ?_
            exact Jt2 0 (by exact (Eq.trans eTt2 (Eq.trans (if_neg h4) (Eq.trans (if_pos h5) (if_neg h8)))))
          · skip
            refine wi_iconst hC 1 (by decide) d_MS_told_50 ?_
            refine wi_goto hC 82 d_MS_told_51 (by decide) ?_
            exact Jt2 1 (by exact (Eq.trans eTt2 (Eq.trans (if_neg h4) (Eq.trans (if_pos h5) (if_pos h8)))))
      · skip
        refine wi_aload_n hC 0 d_MS_told_31 rfl rfl ?_
        refine wg_MS_told hC wd_825 d_MS_told_32 ?_
        refine wi_goto hC 82 d_MS_told_35 (by decide) ?_
        exact Jt2 (gI s1 28 42) (by exact (Eq.trans eTt2 (if_pos h4)))
    · skip
      refine wi_iconst hC 0 (by decide) d_MS_told_25 ?_
      have hf : f_MS_told τ a1 = (0, s1) := by subst e_s1; subst e_t1; exact (if_neg h3)
      exact wi_iret hC hr hk d_MS_told_26 (congrArg (fun z => some (Value.int z.1)) hf) (congrArg (fun z => (σ, z.2, q)) hf).symm hQ
  refine wi_if_lt hC 10 d_MS_told_2 (by decide) (fun h1 => ?_) (fun h1 => ?_)
  · skip
    refine wi_iconst hC 1 (by decide) d_MS_told_10 ?_
    refine wi_goto hC 15 d_MS_told_11 (by decide) ?_
    exact Jt1 true (by exact (Eq.trans eTt1 (if_pos h1)))
  · skip
    refine wi_iload_n hC 1 d_MS_told_5 rfl rfl ?_
    refine wi_iconst hC 3 (by decide) d_MS_told_6 ?_
    refine wi_icmp_le hC 14 d_MS_told_7 (by decide) (fun h2 => ?_) (fun h2 => ?_)
    · skip
      refine wi_iconst hC 0 (by decide) d_MS_told_14 ?_
      exact Jt1 false (by exact (Eq.trans eTt1 (Eq.trans (if_neg h1) (if_pos h2))))
    · skip
      refine wi_iconst hC 1 (by decide) d_MS_told_10 ?_
      refine wi_goto hC 15 d_MS_told_11 (by decide) ?_
      exact Jt1 true (by exact (Eq.trans eTt1 (Eq.trans (if_neg h1) (if_neg h2))))
theorem k_MS_told {p : Program} {l : Launch} {e : Env} {R : Room} {s : State} {m : MethodId} {args : Array Value} {below : List Frame} {meth : Method} {c : Code} {Q : State → Prop} {E : Ev} {nL pc index : Nat} {lv : List (Nat × Value)} {rest : List Value} {cc : ByteArray} {own : String} {σ τ : St} {q : Int64} {a1 : Int32} (hC : Cx p s m args c cc nL own E)   (hl : Cond.methodLink own index y_MS_told ∈ WL) (hR : 0 + 1 ≤ R.frames ∧ 8 + (2 + 11) + 0 ≤ R.locals) (hs8 : (rest.map fun v => v.category).sum ≤ 8) (d : decode cc pc = .ok (.invokevirtual index, 3)) (k : WS p l e R s m args below meth c Q E nL (pc + 3) lv ((.int ((f_MS_told τ a1).1)) :: rest) (σ, (f_MS_told τ a1).2, q)) : WS p l e R s m args below meth c Q E nL pc lv (.int a1 :: .ref 42 :: rest) (σ, τ, q) := by
  exact wi_callV hC (n := 1) (vs := [.int a1]) (rest := rest) 42 12 (by decide) rfl rfl rfl (c_MS_told l E σ τ q a1 ) (by decide +kernel) wd_894 wd_809 wd_895 wd_896 ⟨rfl, rfl⟩ rfl rfl hl hR hs8 d k
set_option maxRecDepth 100000 in
set_option maxHeartbeats 400000 in
theorem c_MS_examine (l : Launch) (E : Ev) (σ τ : St) (q : Int64) (a1 : Int32) (hp : vp_in a1 8) : MF l y_MS_examine prog_15_method_33_code 4 (some .int) { frames := 1, cells := 0, slots := 0, locals := 23 } E [.ref 42, .int a1] (σ, τ, q) (some (.int ((f_MS_examine τ a1).1))) (σ, (f_MS_examine τ a1).2, q) := by
  refine MF_intro (lv0 := [(0, .ref 42), (1, .int a1)]) (by decide) wd_897 (Nat.le_of_ble_eq_true rfl) rfl ?_
  intro p e s m args below meth c Q hC hr hk hQ
  replace hC : Cx p s m args c prog_15_method_33_code 4 "PartnerStackModel$RealStepsModel" E := hC
  refine wi_aload_n hC 0 d_MS_examine_0 rfl rfl ?_
  refine wi_iload_n hC 1 d_MS_examine_1 rfl rfl ?_
  refine k_MS_none hC  wd_814 (by decide) (Nat.le_of_ble_eq_true rfl) d_MS_examine_2 ?_
  obtain ⟨Tt1, eTt1⟩ : ∃ y : Bool, y = (
          if f_MS_none a1 = true then
            true
          else
            false) := ⟨_, rfl⟩
  have Jt1 : ∀ (t1 : Bool), Tt1 = t1 → WS p l e { frames := 1, cells := 0, slots := 0, locals := 23 } s m args below meth c Q E 4 13 [(0, .ref 42), (1, .int a1)] [.int (bI t1), .ref 42] (σ, τ, q) := by
    intro t1  e_t1
    rw [eTt1] at e_t1
    refine wp_MS_code hC wd_806 d_MS_examine_13 ?_
    refine wi_nmM (fun s1 e_s1 => ?_)
    refine wi_aload_n hC 0 d_MS_examine_16 rfl rfl ?_
    refine wg_MS_code hC wd_806 d_MS_examine_17 ?_
    refine wi_if_le hC 25 d_MS_examine_20 (by decide) (fun h2 => ?_) (fun h2 => ?_)
    · skip
      refine wi_aload_n hC 0 d_MS_examine_25 rfl rfl ?_
      refine wi_iload_n hC 1 d_MS_examine_26 rfl rfl ?_
      refine k_MS_kind hC hp wd_852 (by decide) (Nat.le_of_ble_eq_true rfl) d_MS_examine_27 ?_
      refine wi_nmI (fun v1 e_v1 => ?_)
      refine wi_istore_n hC [(2, .int v1), (0, .ref 42), (1, .int a1)] d_MS_examine_30 rfl (by decide) rfl ?_
      refine wi_iload_n hC 0 d_MS_examine_31 rfl rfl ?_
      obtain ⟨Tt2, eTt2⟩ : ∃ y : Int32, y = (
              if v1 = 0 then
                8
              else
                if v1 = 1 then
                  12
                else
                  if v1 = 2 then
                    0
                  else
                    if v1 = 3 then
                      4
                    else
                      if v1 = 4 then
                        5
                      else
                        1) := ⟨_, rfl⟩
      have Jt2 : ∀ (t2 : Int32), Tt2 = t2 → WS p l e { frames := 1, cells := 0, slots := 0, locals := 23 } s m args below meth c Q E 4 78 [(2, .int v1), (0, .ref 42), (1, .int a1)] [.int t2] (σ, s1, q) := by
        intro t2  e_t2
        rw [eTt2] at e_t2
        refine wi_istore_n hC [(3, .int t2), (2, .int v1), (0, .ref 42), (1, .int a1)] d_MS_examine_78 rfl (by decide) rfl ?_
        refine wi_aload_n hC 2 d_MS_examine_79 rfl rfl ?_
        refine wi_iload_n hC 3 d_MS_examine_80 rfl rfl ?_
        refine k_MS_minus hC hp wd_860 (by decide) (Nat.le_of_ble_eq_true rfl) d_MS_examine_81 ?_
        obtain ⟨Tt3, eTt3⟩ : ∃ y : Int32, y = (
                if f_MS_minus s1 a1 = true then
                  t2 + 2
                else
                  t2) := ⟨_, rfl⟩
        have Jt3 : ∀ (t3 : Int32), Tt3 = t3 → WS p l e { frames := 1, cells := 0, slots := 0, locals := 23 } s m args below meth c Q E 4 94 [(3, .int t2), (2, .int v1), (0, .ref 42), (1, .int a1)] [.int t3] (σ, s1, q) := by
          intro t3  e_t3
          rw [eTt3] at e_t3
          have hf : f_MS_examine τ a1 = (t3, s1) := by subst e_t3; subst e_t2; subst e_v1; subst e_s1; subst e_t1; exact (if_pos h2)
          exact wi_iret hC hr hk d_MS_examine_94 (congrArg (fun z => some (Value.int z.1)) hf) (congrArg (fun z => (σ, z.2, q)) hf).symm hQ
        refine wi_z_eq (b := (f_MS_minus s1 a1)) hC 93 d_MS_examine_84 (by decide) (fun h8 => ?_) (fun h8 => ?_)
        · skip
          refine wi_iload_n hC 0 d_MS_examine_93 rfl rfl ?_
          exact Jt3 t2 (by exact (Eq.trans eTt3 (if_neg h8)))
        · skip
          refine wi_iload_n hC 0 d_MS_examine_87 rfl rfl ?_
          refine wi_iconst hC 2 (by decide) d_MS_examine_88 ?_
          refine wi_iadd hC d_MS_examine_89 ?_
          refine wi_goto hC 94 d_MS_examine_90 (by decide) ?_
          exact Jt3 (t2 + 2) (by exact (Eq.trans eTt3 (if_pos h8)))
      refine wi_if_ne hC 40 d_MS_examine_32 (by decide) (fun h3 => ?_) (fun h3 => ?_)
      · skip
        refine wi_iload_n hC 0 d_MS_examine_40 rfl rfl ?_
        refine wi_iconst hC 1 (by decide) d_MS_examine_41 ?_
        refine wi_icmp_ne hC 50 d_MS_examine_42 (by decide) (fun h4 => ?_) (fun h4 => ?_)
        · skip
          refine wi_iload_n hC 0 d_MS_examine_50 rfl rfl ?_
          refine wi_iconst hC 2 (by decide) d_MS_examine_51 ?_
          refine wi_icmp_ne hC 59 d_MS_examine_52 (by decide) (fun h5 => ?_) (fun h5 => ?_)
          · skip
            refine wi_iload_n hC 0 d_MS_examine_59 rfl rfl ?_
            refine wi_iconst hC 3 (by decide) d_MS_examine_60 ?_
            refine wi_icmp_ne hC 68 d_MS_examine_61 (by decide) (fun h6 => ?_) (fun h6 => ?_)
            · skip
              refine wi_iload_n hC 0 d_MS_examine_68 rfl rfl ?_
              refine wi_iconst hC 4 (by decide) d_MS_examine_69 ?_
              refine wi_icmp_ne hC 77 d_MS_examine_70 (by decide) (fun h7 => ?_) (fun h7 => ?_)
              · skip
                refine wi_iconst hC 1 (by decide) d_MS_examine_77 ?_
                exact Jt2 1 (by exact (Eq.trans eTt2 (Eq.trans (if_neg h3) (Eq.trans (if_neg h4) (Eq.trans (if_neg h5) (Eq.trans (if_neg h6) (if_neg h7)))))))
              · skip
                refine wi_iconst hC 5 (by decide) d_MS_examine_73 ?_
                refine wi_goto hC 78 d_MS_examine_74 (by decide) ?_
                exact Jt2 5 (by exact (Eq.trans eTt2 (Eq.trans (if_neg h3) (Eq.trans (if_neg h4) (Eq.trans (if_neg h5) (Eq.trans (if_neg h6) (if_pos h7)))))))
            · skip
              refine wi_iconst hC 4 (by decide) d_MS_examine_64 ?_
              refine wi_goto hC 78 d_MS_examine_65 (by decide) ?_
              exact Jt2 4 (by exact (Eq.trans eTt2 (Eq.trans (if_neg h3) (Eq.trans (if_neg h4) (Eq.trans (if_neg h5) (if_pos h6))))))
          · skip
            refine wi_iconst hC 0 (by decide) d_MS_examine_55 ?_
            refine wi_goto hC 78 d_MS_examine_56 (by decide) ?_
            exact Jt2 0 (by exact (Eq.trans eTt2 (Eq.trans (if_neg h3) (Eq.trans (if_neg h4) (if_pos h5)))))
        · skip
          refine wi_bipush hC 12 (by decide) d_MS_examine_45 ?_
          refine wi_goto hC 78 d_MS_examine_47 (by decide) ?_
          exact Jt2 12 (by exact (Eq.trans eTt2 (Eq.trans (if_neg h3) (if_pos h4))))
      · skip
        refine wi_bipush hC 8 (by decide) d_MS_examine_35 ?_
        refine wi_goto hC 78 d_MS_examine_37 (by decide) ?_
        exact Jt2 8 (by exact (Eq.trans eTt2 (if_pos h3)))
    · skip
      refine wi_iconst hC 0 (by decide) d_MS_examine_23 ?_
      have hf : f_MS_examine τ a1 = (0, s1) := by subst e_s1; subst e_t1; exact (if_neg h2)
      exact wi_iret hC hr hk d_MS_examine_24 (congrArg (fun z => some (Value.int z.1)) hf) (congrArg (fun z => (σ, z.2, q)) hf).symm hQ
  refine wi_z_eq (b := (f_MS_none a1)) hC 12 d_MS_examine_5 (by decide) (fun h1 => ?_) (fun h1 => ?_)
  · skip
    refine wi_iconst hC 0 (by decide) d_MS_examine_12 ?_
    exact Jt1 false (by exact (Eq.trans eTt1 (if_neg h1)))
  · skip
    refine wi_iconst hC 1 (by decide) d_MS_examine_8 ?_
    refine wi_goto hC 13 d_MS_examine_9 (by decide) ?_
    exact Jt1 true (by exact (Eq.trans eTt1 (if_pos h1)))
theorem k_MS_examine {p : Program} {l : Launch} {e : Env} {R : Room} {s : State} {m : MethodId} {args : Array Value} {below : List Frame} {meth : Method} {c : Code} {Q : State → Prop} {E : Ev} {nL pc index : Nat} {lv : List (Nat × Value)} {rest : List Value} {cc : ByteArray} {own : String} {σ τ : St} {q : Int64} {a1 : Int32} (hC : Cx p s m args c cc nL own E)  (hp : vp_in a1 8) (hl : Cond.methodLink own index y_MS_examine ∈ WL) (hR : 1 + 1 ≤ R.frames ∧ 8 + (4 + 11) + 23 ≤ R.locals) (hs8 : (rest.map fun v => v.category).sum ≤ 8) (d : decode cc pc = .ok (.invokevirtual index, 3)) (k : WS p l e R s m args below meth c Q E nL (pc + 3) lv ((.int ((f_MS_examine τ a1).1)) :: rest) (σ, (f_MS_examine τ a1).2, q)) : WS p l e R s m args below meth c Q E nL pc lv (.int a1 :: .ref 42 :: rest) (σ, τ, q) := by
  exact wi_callV hC (n := 1) (vs := [.int a1]) (rest := rest) 42 12 (by decide) rfl rfl rfl (c_MS_examine l E σ τ q a1 hp) (by decide +kernel) wd_897 wd_809 wd_898 wd_899 ⟨rfl, rfl⟩ rfl rfl hl hR hs8 d k
set_option maxRecDepth 100000 in
set_option maxHeartbeats 400000 in
theorem c_MS_constant (l : Launch) (E : Ev) (σ τ : St) (q : Int64) (a1 : Int32) (a2 : Int32) (hp : vp_in a2 8) : MF l y_MS_constant prog_15_method_10_code 3 none { frames := 1, cells := 0, slots := 0, locals := 20 } E [.ref 42, .int a1, .int a2] (σ, τ, q) none (σ, (f_MS_constant τ a1 a2), q) := by
  refine MF_intro (lv0 := [(0, .ref 42), (1, .int a1), (2, .int a2)]) (by decide) wd_905 (Nat.le_of_ble_eq_true rfl) rfl ?_
  intro p e s m args below meth c Q hC hr hk hQ
  replace hC : Cx p s m args c prog_15_method_10_code 3 "PartnerStackModel$RealStepsModel" E := hC
  refine wi_aload_n hC 0 d_MS_constant_0 rfl rfl ?_
  refine wi_iload_n hC 2 d_MS_constant_1 rfl rfl ?_
  refine k_MS_none hC  wd_814 (by decide) (Nat.le_of_ble_eq_true rfl) d_MS_constant_2 ?_
  obtain ⟨Tt1, eTt1⟩ : ∃ y : Int32, y = (
          if f_MS_none a2 = true then
            1
          else
            if a1 < 0 then
              2
            else
              if a1 ≤ 6 then
                0
              else
                2) := ⟨_, rfl⟩
  have Jt1 : ∀ (t1 : Int32), Tt1 = t1 → WS p l e { frames := 1, cells := 0, slots := 0, locals := 20 } s m args below meth c Q E 3 27 [(0, .ref 42), (1, .int a1), (2, .int a2)] [.int t1, .ref 42] (σ, τ, q) := by
    intro t1  e_t1
    rw [eTt1] at e_t1
    refine wp_MS_code hC wd_806 d_MS_constant_27 ?_
    refine wi_nmM (fun s1 e_s1 => ?_)
    refine wi_aload_n hC 0 d_MS_constant_30 rfl rfl ?_
    refine wg_MS_code hC wd_806 d_MS_constant_31 ?_
    refine wi_if_le hC 38 d_MS_constant_34 (by decide) (fun h4 => ?_) (fun h4 => ?_)
    · skip
      refine wi_aload_n hC 0 d_MS_constant_38 rfl rfl ?_
      refine wg_MS_top hC wd_815 d_MS_constant_39 ?_
      refine wi_iload_n hC 2 d_MS_constant_42 rfl rfl ?_
      refine wi_iload_n hC 1 d_MS_constant_43 rfl rfl ?_
      obtain ⟨Tt2, eTt2⟩ : ∃ y : Int32, y = (
              if a1 = 0 then
                0
              else
                let t3 : Int32 := 
                    if a1 = 2 then
                      1
                    else
                      if a1 = 4 then
                        1
                      else
                        if a1 = 5 then
                          (-2)
                        else
                          if a1 = 6 then
                            (-1)
                          else
                            0
                16383 + t3) := ⟨_, rfl⟩
      have Jt2 : ∀ (t2 : Int32), Tt2 = t2 → WS p l e { frames := 1, cells := 0, slots := 0, locals := 20 } s m args below meth c Q E 3 90 [(0, .ref 42), (1, .int a1), (2, .int a2)] [.int t2, .int a2, .ref 43] (σ, s1, q) := by
        intro t2  e_t2
        rw [eTt2] at e_t2
        refine wa_st43 hC hp d_MS_constant_90 ?_
        refine wi_nmM (fun s2 e_s2 => ?_)
        refine wi_aload_n hC 0 d_MS_constant_91 rfl rfl ?_
        refine wg_MS_fraction hC wd_816 d_MS_constant_92 ?_
        refine wi_iload_n hC 2 d_MS_constant_95 rfl rfl ?_
        refine wi_iload_n hC 1 d_MS_constant_96 rfl rfl ?_
        obtain ⟨Tt4, eTt4⟩ : ∃ y : Int64, y = (
                if a1 = 0 then
                  0
                else
                  if a1 = 1 then
                    (-9223372036854775808)
                  else
                    if a1 = 2 then
                      (-3127054724296373506)
                    else
                      if a1 = 3 then
                        (-5140230975865229124)
                      else
                        if a1 = 4 then
                          (-3958705157555305931)
                        else
                          if a1 = 5 then
                            (-7340697496662837351)
                          else
                            (-5660435428506895956)) := ⟨_, rfl⟩
        have Jt4 : ∀ (t4 : Int64), Tt4 = t4 → WS p l e { frames := 1, cells := 0, slots := 0, locals := 20 } s m args below meth c Q E 3 162 [(0, .ref 42), (1, .int a1), (2, .int a2)] [.long t4, .int a2, .ref 44] (σ, s2, q) := by
          intro t4  e_t4
          rw [eTt4] at e_t4
          refine wa_st44 hC hp d_MS_constant_162 ?_
          refine wi_nmM (fun s3 e_s3 => ?_)
          have hf : f_MS_constant τ a1 a2 = s3 := by subst e_s3; subst e_t4; subst e_s2; subst e_t2; subst e_s1; subst e_t1; exact (if_pos h4)
          exact wi_vret hC hr hk d_MS_constant_163 rfl (congrArg (fun z => (σ, z, q)) hf).symm hQ
        refine wi_if_ne hC 104 d_MS_constant_97 (by decide) (fun h10 => ?_) (fun h10 => ?_)
        · skip
          refine wi_iload_n hC 1 d_MS_constant_104 rfl rfl ?_
          refine wi_iconst hC 1 (by decide) d_MS_constant_105 ?_
          refine wi_icmp_ne hC 115 d_MS_constant_106 (by decide) (fun h11 => ?_) (fun h11 => ?_)
          · skip
            refine wi_iload_n hC 1 d_MS_constant_115 rfl rfl ?_
            refine wi_iconst hC 2 (by decide) d_MS_constant_116 ?_
            refine wi_icmp_ne hC 126 d_MS_constant_117 (by decide) (fun h12 => ?_) (fun h12 => ?_)
            · skip
              refine wi_iload_n hC 1 d_MS_constant_126 rfl rfl ?_
              refine wi_iconst hC 3 (by decide) d_MS_constant_127 ?_
              refine wi_icmp_ne hC 137 d_MS_constant_128 (by decide) (fun h13 => ?_) (fun h13 => ?_)
              · skip
                refine wi_iload_n hC 1 d_MS_constant_137 rfl rfl ?_
                refine wi_iconst hC 4 (by decide) d_MS_constant_138 ?_
                refine wi_icmp_ne hC 148 d_MS_constant_139 (by decide) (fun h14 => ?_) (fun h14 => ?_)
                · skip
                  refine wi_iload_n hC 1 d_MS_constant_148 rfl rfl ?_
                  refine wi_iconst hC 5 (by decide) d_MS_constant_149 ?_
                  refine wi_icmp_ne hC 159 d_MS_constant_150 (by decide) (fun h15 => ?_) (fun h15 => ?_)
                  · skip
                    refine wi_ldc2 hC wd_900 d_MS_constant_159 ?_
                    exact Jt4 (-5660435428506895956) (by exact (Eq.trans eTt4 (Eq.trans (if_neg h10) (Eq.trans (if_neg h11) (Eq.trans (if_neg h12) (Eq.trans (if_neg h13) (Eq.trans (if_neg h14) (if_neg h15))))))))
                  · skip
                    refine wi_ldc2 hC wd_901 d_MS_constant_153 ?_
                    refine wi_goto hC 162 d_MS_constant_156 (by decide) ?_
                    exact Jt4 (-7340697496662837351) (by exact (Eq.trans eTt4 (Eq.trans (if_neg h10) (Eq.trans (if_neg h11) (Eq.trans (if_neg h12) (Eq.trans (if_neg h13) (Eq.trans (if_neg h14) (if_pos h15))))))))
                · skip
                  refine wi_ldc2 hC wd_902 d_MS_constant_142 ?_
                  refine wi_goto hC 162 d_MS_constant_145 (by decide) ?_
                  exact Jt4 (-3958705157555305931) (by exact (Eq.trans eTt4 (Eq.trans (if_neg h10) (Eq.trans (if_neg h11) (Eq.trans (if_neg h12) (Eq.trans (if_neg h13) (if_pos h14)))))))
              · skip
                refine wi_ldc2 hC wd_903 d_MS_constant_131 ?_
                refine wi_goto hC 162 d_MS_constant_134 (by decide) ?_
                exact Jt4 (-5140230975865229124) (by exact (Eq.trans eTt4 (Eq.trans (if_neg h10) (Eq.trans (if_neg h11) (Eq.trans (if_neg h12) (if_pos h13))))))
            · skip
              refine wi_ldc2 hC wd_904 d_MS_constant_120 ?_
              refine wi_goto hC 162 d_MS_constant_123 (by decide) ?_
              exact Jt4 (-3127054724296373506) (by exact (Eq.trans eTt4 (Eq.trans (if_neg h10) (Eq.trans (if_neg h11) (if_pos h12)))))
          · skip
            refine wi_ldc2 hC wd_831 d_MS_constant_109 ?_
            refine wi_goto hC 162 d_MS_constant_112 (by decide) ?_
            exact Jt4 (-9223372036854775808) (by exact (Eq.trans eTt4 (Eq.trans (if_neg h10) (if_pos h11))))
        · skip
          refine wi_lconst hC 0 (by decide) d_MS_constant_100 ?_
          refine wi_goto hC 162 d_MS_constant_101 (by decide) ?_
          exact Jt4 0 (by exact (Eq.trans eTt4 (if_pos h10)))
      refine wi_if_ne hC 51 d_MS_constant_44 (by decide) (fun h5 => ?_) (fun h5 => ?_)
      · skip
        refine wi_sipush hC 16383 (by decide) d_MS_constant_51 ?_
        refine wi_iload_n hC 1 d_MS_constant_54 rfl rfl ?_
        refine wi_iconst hC 2 (by decide) d_MS_constant_55 ?_
        obtain ⟨Tt3, eTt3⟩ : ∃ y : Int32, y = (
                if a1 = 2 then
                  1
                else
                  if a1 = 4 then
                    1
                  else
                    if a1 = 5 then
                      (-2)
                    else
                      if a1 = 6 then
                        (-1)
                      else
                        0) := ⟨_, rfl⟩
        have Jt3 : ∀ (t3 : Int32), Tt3 = t3 → WS p l e { frames := 1, cells := 0, slots := 0, locals := 20 } s m args below meth c Q E 3 89 [(0, .ref 42), (1, .int a1), (2, .int a2)] [.int t3, .int 16383, .int a2, .ref 43] (σ, s1, q) := by
          intro t3  e_t3
          rw [eTt3] at e_t3
          refine wi_iadd hC d_MS_constant_89 ?_
          exact Jt2 (16383 + t3) (by subst e_t3; exact (Eq.trans eTt2 (if_neg h5)))
        refine wi_icmp_eq hC 64 d_MS_constant_56 (by decide) (fun h6 => ?_) (fun h6 => ?_)
        · skip
          refine wi_iconst hC 1 (by decide) d_MS_constant_64 ?_
          refine wi_goto hC 89 d_MS_constant_65 (by decide) ?_
          exact Jt3 1 (by exact (Eq.trans eTt3 (if_pos h6)))
        · skip
          refine wi_iload_n hC 1 d_MS_constant_59 rfl rfl ?_
          refine wi_iconst hC 4 (by decide) d_MS_constant_60 ?_
          refine wi_icmp_ne hC 68 d_MS_constant_61 (by decide) (fun h7 => ?_) (fun h7 => ?_)
          · skip
            refine wi_iload_n hC 1 d_MS_constant_68 rfl rfl ?_
            refine wi_iconst hC 5 (by decide) d_MS_constant_69 ?_
            refine wi_icmp_ne hC 78 d_MS_constant_70 (by decide) (fun h8 => ?_) (fun h8 => ?_)
            · skip
              refine wi_iload_n hC 1 d_MS_constant_78 rfl rfl ?_
              refine wi_bipush hC 6 (by decide) d_MS_constant_79 ?_
              refine wi_icmp_ne hC 88 d_MS_constant_81 (by decide) (fun h9 => ?_) (fun h9 => ?_)
              · skip
                refine wi_iconst hC 0 (by decide) d_MS_constant_88 ?_
                exact Jt3 0 (by exact (Eq.trans eTt3 (Eq.trans (if_neg h6) (Eq.trans (if_neg h7) (Eq.trans (if_neg h8) (if_neg h9))))))
              · skip
                refine wi_iconst hC (-1) (by decide) d_MS_constant_84 ?_
                refine wi_goto hC 89 d_MS_constant_85 (by decide) ?_
                exact Jt3 (-1) (by exact (Eq.trans eTt3 (Eq.trans (if_neg h6) (Eq.trans (if_neg h7) (Eq.trans (if_neg h8) (if_pos h9))))))
            · skip
              refine wi_bipush hC (-2) (by decide) d_MS_constant_73 ?_
              refine wi_goto hC 89 d_MS_constant_75 (by decide) ?_
              exact Jt3 (-2) (by exact (Eq.trans eTt3 (Eq.trans (if_neg h6) (Eq.trans (if_neg h7) (if_pos h8)))))
          · skip
            refine wi_iconst hC 1 (by decide) d_MS_constant_64 ?_
            refine wi_goto hC 89 d_MS_constant_65 (by decide) ?_
            exact Jt3 1 (by exact (Eq.trans eTt3 (Eq.trans (if_neg h6) (if_pos h7))))
      · skip
        refine wi_iconst hC 0 (by decide) d_MS_constant_47 ?_
        refine wi_goto hC 90 d_MS_constant_48 (by decide) ?_
        exact Jt2 0 (by exact (Eq.trans eTt2 (if_pos h5)))
    · skip
      have hf : f_MS_constant τ a1 a2 = s1 := by subst e_s1; subst e_t1; exact (if_neg h4)
      exact wi_vret hC hr hk d_MS_constant_37 rfl (congrArg (fun z => (σ, z, q)) hf).symm hQ
  refine wi_z_eq (b := (f_MS_none a2)) hC 12 d_MS_constant_5 (by decide) (fun h1 => ?_) (fun h1 => ?_)
  · skip
    refine wi_iload_n hC 1 d_MS_constant_12 rfl rfl ?_
    refine wi_if_lt hC 22 d_MS_constant_13 (by decide) (fun h2 => ?_) (fun h2 => ?_)
    · skip
      refine wi_iconst hC 2 (by decide) d_MS_constant_22 ?_
      refine wi_goto hC 27 d_MS_constant_23 (by decide) ?_
      exact Jt1 2 (by exact (Eq.trans eTt1 (Eq.trans (if_neg h1) (if_pos h2))))
    · skip
      refine wi_iload_n hC 1 d_MS_constant_16 rfl rfl ?_
      refine wi_bipush hC 6 (by decide) d_MS_constant_17 ?_
      refine wi_icmp_le hC 26 d_MS_constant_19 (by decide) (fun h3 => ?_) (fun h3 => ?_)
      · skip
        refine wi_iconst hC 0 (by decide) d_MS_constant_26 ?_
        exact Jt1 0 (by exact (Eq.trans eTt1 (Eq.trans (if_neg h1) (Eq.trans (if_neg h2) (if_pos h3)))))
      · skip
        refine wi_iconst hC 2 (by decide) d_MS_constant_22 ?_
        refine wi_goto hC 27 d_MS_constant_23 (by decide) ?_
        exact Jt1 2 (by exact (Eq.trans eTt1 (Eq.trans (if_neg h1) (Eq.trans (if_neg h2) (if_neg h3)))))
  · skip
    refine wi_iconst hC 1 (by decide) d_MS_constant_8 ?_
    refine wi_goto hC 27 d_MS_constant_9 (by decide) ?_
    exact Jt1 1 (by exact (Eq.trans eTt1 (if_pos h1)))
theorem k_MS_constant {p : Program} {l : Launch} {e : Env} {R : Room} {s : State} {m : MethodId} {args : Array Value} {below : List Frame} {meth : Method} {c : Code} {Q : State → Prop} {E : Ev} {nL pc index : Nat} {lv : List (Nat × Value)} {rest : List Value} {cc : ByteArray} {own : String} {σ τ : St} {q : Int64} {a1 : Int32} {a2 : Int32} (hC : Cx p s m args c cc nL own E)  (hp : vp_in a2 8) (hl : Cond.methodLink own index y_MS_constant ∈ WL) (hR : 1 + 1 ≤ R.frames ∧ 8 + (3 + 11) + 20 ≤ R.locals) (hs8 : (rest.map fun v => v.category).sum ≤ 8) (d : decode cc pc = .ok (.invokevirtual index, 3)) (k : WS p l e R s m args below meth c Q E nL (pc + 3) lv rest (σ, (f_MS_constant τ a1 a2), q)) : WS p l e R s m args below meth c Q E nL pc lv (.int a2 :: .int a1 :: .ref 42 :: rest) (σ, τ, q) := by
  exact wi_callV hC (n := 2) (vs := [.int a1, .int a2]) (rest := rest) 42 12 (by decide) rfl rfl rfl (c_MS_constant l E σ τ q a1 a2 hp) (by decide +kernel) wd_905 wd_809 wd_906 wd_907 ⟨rfl, rfl⟩ rfl rfl hl hR hs8 d k
set_option maxRecDepth 100000 in
set_option maxHeartbeats 400000 in
theorem c_MS_way (l : Launch) (E : Ev) (σ τ : St) (q : Int64)   : MF l y_MS_way prog_15_method_5_code 1 (some .int) { frames := 0, cells := 0, slots := 0, locals := 0 } E [.ref 42] (σ, τ, q) (some (.int (f_MS_way τ))) (σ, τ, q) := by
  refine MF_intro (lv0 := [(0, .ref 42)]) (by decide) wd_908 (Nat.le_of_ble_eq_true rfl) rfl ?_
  intro p e s m args below meth c Q hC hr hk hQ
  replace hC : Cx p s m args c prog_15_method_5_code 1 "PartnerStackModel$RealStepsModel" E := hC
  refine wi_aload_n hC 0 d_MS_way_0 rfl rfl ?_
  refine wg_MS_control hC wd_807 d_MS_way_1 ?_
  refine wi_sipush hC 1024 (by decide) d_MS_way_4 ?_
  refine wi_idiv hC (by decide) d_MS_way_7 ?_
  refine wi_iconst hC 4 (by decide) d_MS_way_8 ?_
  refine wi_irem hC (by decide) d_MS_way_9 ?_
  have hf : f_MS_way τ = jrem ((gI τ 27 42) / 1024) 4 := by exact rfl
  exact wi_iret hC hr hk d_MS_way_10 (congrArg (fun z => some (Value.int z)) hf) rfl hQ
theorem k_MS_way {p : Program} {l : Launch} {e : Env} {R : Room} {s : State} {m : MethodId} {args : Array Value} {below : List Frame} {meth : Method} {c : Code} {Q : State → Prop} {E : Ev} {nL pc index : Nat} {lv : List (Nat × Value)} {rest : List Value} {cc : ByteArray} {own : String} {σ τ : St} {q : Int64}  (hC : Cx p s m args c cc nL own E)   (hl : Cond.methodLink own index y_MS_way ∈ WL) (hR : 0 + 1 ≤ R.frames ∧ 8 + (1 + 11) + 0 ≤ R.locals) (hs8 : (rest.map fun v => v.category).sum ≤ 8) (d : decode cc pc = .ok (.invokevirtual index, 3)) (k : WS p l e R s m args below meth c Q E nL (pc + 3) lv ((.int (f_MS_way τ)) :: rest) (σ, τ, q)) : WS p l e R s m args below meth c Q E nL pc lv (.ref 42 :: rest) (σ, τ, q) := by
  exact wi_callV hC (n := 0) (vs := []) (rest := rest) 42 12 (by decide) rfl rfl rfl (c_MS_way l E σ τ q  ) (by decide +kernel) wd_908 wd_809 wd_909 wd_910 ⟨rfl, rfl⟩ rfl rfl hl hR hs8 d k
set_option maxRecDepth 100000 in
set_option maxHeartbeats 400000 in
theorem c_MS_rounded (l : Launch) (E : Ev) (σ τ : St) (q : Int64) (a1 : Int64) (a2 : Int32) (a3 : Bool)  : MF l y_MS_rounded prog_15_method_21_code 10 (some .long) { frames := 1, cells := 0, slots := 0, locals := 20 } E [.ref 42, .long a1, .int a2, .int (bI a3)] (σ, τ, q) (some (.long ((f_MS_rounded τ a1 a2 a3).1))) (σ, (f_MS_rounded τ a1 a2 a3).2, q) := by
  refine MF_intro (lv0 := [(0, .ref 42), (1, .long a1), (3, .int a2), (4, .int (bI a3))]) (by decide) wd_914 (Nat.le_of_ble_eq_true rfl) rfl ?_
  intro p e s m args below meth c Q hC hr hk hQ
  replace hC : Cx p s m args c prog_15_method_21_code 10 "PartnerStackModel$RealStepsModel" E := hC
  refine wi_lload_n hC 1 d_MS_rounded_0 rfl rfl ?_
  refine wi_lstore hC [(5, .long a1), (0, .ref 42), (1, .long a1), (3, .int a2), (4, .int (bI a3))] d_MS_rounded_1 (by decide) rfl ?_
  refine wi_iconst hC 0 (by decide) d_MS_rounded_3 ?_
  refine wi_istore hC [(7, .int 0), (5, .long a1), (0, .ref 42), (1, .long a1), (3, .int a2), (4, .int (bI a3))] d_MS_rounded_4 (by decide) rfl ?_
  refine wi_iconst hC 0 (by decide) d_MS_rounded_6 ?_
  refine wi_istore hC [(8, .int 0), (7, .int 0), (5, .long a1), (0, .ref 42), (1, .long a1), (3, .int a2), (4, .int (bI a3))] d_MS_rounded_7 (by decide) rfl ?_
  refine wi_iconst hC 0 (by decide) d_MS_rounded_9 ?_
  refine wi_istore hC [(9, .int 0), (8, .int 0), (7, .int 0), (5, .long a1), (0, .ref 42), (1, .long a1), (3, .int a2), (4, .int (bI a3))] d_MS_rounded_10 (by decide) rfl ?_
  refine wi_loop ((b_MS_rounded_12 a2)) (fun t2 => 0 ≤ (t2.1).toInt) (fun t2 => [(9, .int t2.1), (8, .int (bI t2.2.1)), (7, .int (bI t2.2.2.1)), (5, .long t2.2.2.2), (0, .ref 42), (1, .long a1), (3, .int a2), (4, .int (bI a3))]) (fun t2 => (σ, τ, q)) 76 ?_ (up_inv (b := (b_MS_rounded_12 a2)) (fun t => t.1) a2 0 (st_b_MS_rounded_12 a2)) (upf a2 0) (0, false, false, a1) (show (0 : Int) ≤ (0 : Int32).toInt by decide) (up_halt (b := (b_MS_rounded_12 a2)) (fun t => t.1) a2 (st_b_MS_rounded_12 a2) (0, false, false, a1)) ?_
  · intro t2 hi_t2 hc_t2 hx_t2
    refine wi_iload hC 0 d_MS_rounded_12 rfl ?_
    refine wi_iload_n hC 6 d_MS_rounded_14 rfl rfl ?_
    refine wi_icmp_ge hC 76 d_MS_rounded_15 (by decide) (fun h1 => ?_) (fun h1 => ?_)
    · skip
      exact hx_t2 (t2.1, t2.2.1, t2.2.2.1, t2.2.2.2) (by exact (if_pos h1))
    · skip
      refine wi_iload hC 0 d_MS_rounded_18 rfl ?_
      refine wi_bipush hC 70 (by decide) d_MS_rounded_20 ?_
      refine wi_icmp_ge hC 76 d_MS_rounded_22 (by decide) (fun h2 => ?_) (fun h2 => ?_)
      · skip
        exact hx_t2 (t2.1, t2.2.1, t2.2.2.1, t2.2.2.2) (by exact (Eq.trans (if_neg h1) (if_pos h2)))
      · skip
        refine wi_iload hC 1 d_MS_rounded_25 rfl ?_
        obtain ⟨Tt3, eTt3⟩ : ∃ y : Bool, y = (
                if t2.2.1 = true then
                  true
                else
                  if t2.2.2.1 = true then
                    true
                  else
                    false) := ⟨_, rfl⟩
        have Jt3 : ∀ (t3 : Bool), Tt3 = t3 → WS p l e { frames := 1, cells := 0, slots := 0, locals := 20 } s m args below meth c Q E 10 40 [(9, .int t2.1), (8, .int (bI t2.2.1)), (7, .int (bI t2.2.2.1)), (5, .long t2.2.2.2), (0, .ref 42), (1, .long a1), (3, .int a2), (4, .int (bI a3))] [.int (bI t3)] (σ, τ, q) := by
          intro t3  e_t3
          rw [eTt3] at e_t3
          refine wi_istore hC [(8, .int (bI t3)), (9, .int t2.1), (7, .int (bI t2.2.2.1)), (5, .long t2.2.2.2), (0, .ref 42), (1, .long a1), (3, .int a2), (4, .int (bI a3))] d_MS_rounded_40 (by decide) rfl ?_
          refine wi_lload hC 3 d_MS_rounded_42 rfl ?_
          refine wi_ldc2 hC wd_870 d_MS_rounded_44 ?_
          refine wi_lrem hC (by decide) d_MS_rounded_47 ?_
          refine wi_lconst hC 0 (by decide) d_MS_rounded_48 ?_
          obtain ⟨Tt4, eTt4⟩ : ∃ y : Bool, y = (
                  if jlrem t2.2.2.2 2 = 0 then
                    false
                  else
                    true) := ⟨_, rfl⟩
          have Jt4 : ∀ (t4 : Bool), Tt4 = t4 → WS p l e { frames := 1, cells := 0, slots := 0, locals := 20 } s m args below meth c Q E 10 58 [(8, .int (bI t3)), (9, .int t2.1), (7, .int (bI t2.2.2.1)), (5, .long t2.2.2.2), (0, .ref 42), (1, .long a1), (3, .int a2), (4, .int (bI a3))] [.int (bI t4)] (σ, τ, q) := by
            intro t4  e_t4
            rw [eTt4] at e_t4
            refine wi_istore hC [(7, .int (bI t4)), (8, .int (bI t3)), (9, .int t2.1), (5, .long t2.2.2.2), (0, .ref 42), (1, .long a1), (3, .int a2), (4, .int (bI a3))] d_MS_rounded_58 (by decide) rfl ?_
            refine wi_lload hC 3 d_MS_rounded_60 rfl ?_
            refine wi_iconst hC 1 (by decide) d_MS_rounded_62 ?_
            refine wi_lshr hC d_MS_rounded_63 ?_
            refine wi_ldc2 hC wd_911 d_MS_rounded_64 ?_
            refine wi_land hC d_MS_rounded_67 ?_
            refine wi_nmJ (fun v1 e_v1 => ?_)
            refine wi_lstore hC [(5, .long v1), (7, .int (bI t4)), (8, .int (bI t3)), (9, .int t2.1), (0, .ref 42), (1, .long a1), (3, .int a2), (4, .int (bI a3))] d_MS_rounded_68 (by decide) rfl ?_
            obtain ⟨v2, e_v2⟩ : ∃ y : Int32, t2.1 + 1 = y := ⟨_, rfl⟩
            refine wi_iinc hC 3 v2 [(9, .int v2), (5, .long v1), (7, .int (bI t4)), (8, .int (bI t3)), (0, .ref 42), (1, .long a1), (3, .int a2), (4, .int (bI a3))] d_MS_rounded_70 rfl (by rw [← e_v2]; rfl) (by decide) rfl ?_
            refine wi_goto hC 12 d_MS_rounded_73 (by decide) ?_
            refine wi_lv [0, 3, 2, 1, 4, 5, 6, 7] [(9, .int v2), (8, .int (bI t3)), (7, .int (bI t4)), (5, .long v1), (0, .ref 42), (1, .long a1), (3, .int a2), (4, .int (bI a3))] rfl ?_
            exact hc_t2 (v2, t3, t4, v1) (by subst e_v2; subst e_v1; subst e_t4; subst e_t3; exact (Eq.trans (if_neg h1) (if_neg h2)))
          refine wi_lcmp_eq hC 57 d_MS_rounded_49 d_MS_rounded_50 (by decide) (fun h5 => ?_) (fun h5 => ?_)
          · skip
            refine wi_iconst hC 0 (by decide) d_MS_rounded_57 ?_
            exact Jt4 false (by exact (Eq.trans eTt4 (if_pos h5)))
          · skip
            refine wi_iconst hC 1 (by decide) d_MS_rounded_53 ?_
            refine wi_goto hC 58 d_MS_rounded_54 (by decide) ?_
            exact Jt4 true (by exact (Eq.trans eTt4 (if_neg h5)))
        refine wi_z_ne (b := t2.2.1) hC 35 d_MS_rounded_27 (by decide) (fun h3 => ?_) (fun h3 => ?_)
        · skip
          refine wi_iconst hC 1 (by decide) d_MS_rounded_35 ?_
          refine wi_goto hC 40 d_MS_rounded_36 (by decide) ?_
          exact Jt3 true (by exact (Eq.trans eTt3 (if_pos h3)))
        · skip
          refine wi_iload hC 2 d_MS_rounded_30 rfl ?_
          refine wi_z_eq (b := t2.2.2.1) hC 39 d_MS_rounded_32 (by decide) (fun h4 => ?_) (fun h4 => ?_)
          · skip
            refine wi_iconst hC 0 (by decide) d_MS_rounded_39 ?_
            exact Jt3 false (by exact (Eq.trans eTt3 (Eq.trans (if_neg h3) (if_neg h4))))
          · skip
            refine wi_iconst hC 1 (by decide) d_MS_rounded_35 ?_
            refine wi_goto hC 40 d_MS_rounded_36 (by decide) ?_
            exact Jt3 true (by exact (Eq.trans eTt3 (Eq.trans (if_neg h3) (if_pos h4))))
  obtain ⟨t1, e_t1⟩ : ∃ y : Int32 × Bool × Bool × Int64, lpn ((b_MS_rounded_12 a2)) (upf a2 0) (0, false, false, a1) = y := ⟨_, rfl⟩
  rw [e_t1]
  refine wi_iload hC 1 d_MS_rounded_76 rfl ?_
  obtain ⟨Tt5, eTt5⟩ : ∃ y : Bool, y = (
          if t1.2.1 = true then
            true
          else
            if a2 ≤ 70 then
              false
            else
              if t1.2.2.1 = true then
                true
              else
                false) := ⟨_, rfl⟩
  have Jt5 : ∀ (t5 : Bool), Tt5 = t5 → WS p l e { frames := 1, cells := 0, slots := 0, locals := 20 } s m args below meth c Q E 10 97 [(9, .int t1.1), (8, .int (bI t1.2.1)), (7, .int (bI t1.2.2.1)), (5, .long t1.2.2.2), (0, .ref 42), (1, .long a1), (3, .int a2), (4, .int (bI a3))] [.int (bI t5)] (σ, τ, q) := by
    intro t5  e_t5
    rw [eTt5] at e_t5
    refine wi_istore hC [(8, .int (bI t5)), (9, .int t1.1), (7, .int (bI t1.2.2.1)), (5, .long t1.2.2.2), (0, .ref 42), (1, .long a1), (3, .int a2), (4, .int (bI a3))] d_MS_rounded_97 (by decide) rfl ?_
    refine wi_iload hC 2 d_MS_rounded_99 rfl ?_
    obtain ⟨Tt6, eTt6⟩ : ∃ y : Bool, y = (
            if t1.2.2.1 = true then
              if 70 < a2 then
                false
              else
                true
            else
              false) := ⟨_, rfl⟩
    have Jt6 : ∀ (t6 : Bool), Tt6 = t6 → WS p l e { frames := 1, cells := 0, slots := 0, locals := 20 } s m args below meth c Q E 10 115 [(8, .int (bI t5)), (9, .int t1.1), (7, .int (bI t1.2.2.1)), (5, .long t1.2.2.2), (0, .ref 42), (1, .long a1), (3, .int a2), (4, .int (bI a3))] [.int (bI t6)] (σ, τ, q) := by
      intro t6  e_t6
      rw [eTt6] at e_t6
      refine wi_istore hC [(7, .int (bI t6)), (8, .int (bI t5)), (9, .int t1.1), (5, .long t1.2.2.2), (0, .ref 42), (1, .long a1), (3, .int a2), (4, .int (bI a3))] d_MS_rounded_115 (by decide) rfl ?_
      refine wi_aload_n hC 4 d_MS_rounded_117 rfl rfl ?_
      refine wi_iload hC 0 d_MS_rounded_118 rfl ?_
      obtain ⟨Tt7, eTt7⟩ : ∃ y : Bool, y = (
              if t6 = true then
                true
              else
                if t5 = true then
                  true
                else
                  false) := ⟨_, rfl⟩
      have Jt7 : ∀ (t7 : Bool), Tt7 = t7 → WS p l e { frames := 1, cells := 0, slots := 0, locals := 20 } s m args below meth c Q E 10 133 [(7, .int (bI t6)), (8, .int (bI t5)), (9, .int t1.1), (5, .long t1.2.2.2), (0, .ref 42), (1, .long a1), (3, .int a2), (4, .int (bI a3))] [.int (bI t7), .ref 42] (σ, τ, q) := by
        intro t7  e_t7
        rw [eTt7] at e_t7
        refine wp_MS_lost hC t7 rfl wd_912 d_MS_rounded_133 ?_
        refine wi_nmM (fun s1 e_s1 => ?_)
        refine wi_aload_n hC 4 d_MS_rounded_136 rfl rfl ?_
        refine k_MS_way hC  wd_913 (by decide) (Nat.le_of_ble_eq_true rfl) d_MS_rounded_137 ?_
        obtain ⟨Tt8, eTt8⟩ : ∃ y : Bool, y = (
                if f_MS_way s1 = 0 then
                  if t6 = true then
                    if t5 = true then
                      true
                    else
                      if jlrem t1.2.2.2 2 = 1 then
                        true
                      else
                        false
                  else
                    false
                else
                  if gZ s1 36 42 = true then
                    let t9 : Int32 := 
                        if a3 = true then
                          1
                        else
                          2
                    if f_MS_way s1 = t9 then
                      true
                    else
                      false
                  else
                    false) := ⟨_, rfl⟩
        have Jt8 : ∀ (t8 : Bool), Tt8 = t8 → WS p l e { frames := 1, cells := 0, slots := 0, locals := 20 } s m args below meth c Q E 10 201 [(7, .int (bI t6)), (8, .int (bI t5)), (9, .int t1.1), (5, .long t1.2.2.2), (0, .ref 42), (1, .long a1), (3, .int a2), (4, .int (bI a3))] [.int (bI t8)] (σ, s1, q) := by
          intro t8  e_t8
          rw [eTt8] at e_t8
          refine wi_istore hC [(9, .int (bI t8)), (7, .int (bI t6)), (8, .int (bI t5)), (5, .long t1.2.2.2), (0, .ref 42), (1, .long a1), (3, .int a2), (4, .int (bI a3))] d_MS_rounded_201 (by decide) rfl ?_
          refine wi_iload hC 0 d_MS_rounded_203 rfl ?_
          obtain ⟨Tt10, eTt10⟩ : ∃ y : Int64, y = (
                  if t8 = true then
                    t1.2.2.2 + 1
                  else
                    t1.2.2.2) := ⟨_, rfl⟩
          have Jt10 : ∀ (t10 : Int64), Tt10 = t10 → WS p l e { frames := 1, cells := 0, slots := 0, locals := 20 } s m args below meth c Q E 10 217 [(9, .int (bI t8)), (7, .int (bI t6)), (8, .int (bI t5)), (5, .long t1.2.2.2), (0, .ref 42), (1, .long a1), (3, .int a2), (4, .int (bI a3))] [.long t10] (σ, s1, q) := by
            intro t10  e_t10
            rw [eTt10] at e_t10
            have hf : f_MS_rounded τ a1 a2 a3 = (t10, s1) := by subst e_t10; subst e_t8; subst e_s1; subst e_t7; subst e_t6; subst e_t5; subst e_t1; exact rfl
            exact wi_lret hC hr hk d_MS_rounded_217 (congrArg (fun z => some (Value.long z.1)) hf) (congrArg (fun z => (σ, z.2, q)) hf).symm hQ
          refine wi_z_eq (b := t8) hC 215 d_MS_rounded_205 (by decide) (fun h20 => ?_) (fun h20 => ?_)
          · skip
            refine wi_lload hC 3 d_MS_rounded_215 rfl ?_
            exact Jt10 t1.2.2.2 (by exact (Eq.trans eTt10 (if_neg h20)))
          · skip
            refine wi_lload hC 3 d_MS_rounded_208 rfl ?_
            refine wi_lconst hC 1 (by decide) d_MS_rounded_210 ?_
            refine wi_ladd hC d_MS_rounded_211 ?_
            refine wi_goto hC 217 d_MS_rounded_212 (by decide) ?_
            exact Jt10 (t1.2.2.2 + 1) (by exact (Eq.trans eTt10 (if_pos h20)))
        refine wi_if_ne hC 172 d_MS_rounded_140 (by decide) (fun h13 => ?_) (fun h13 => ?_)
        · skip
          refine wi_aload_n hC 4 d_MS_rounded_172 rfl rfl ?_
          refine wg_MS_lost hC wd_912 d_MS_rounded_173 ?_
          refine wi_z_eq (b := (gZ s1 36 42)) hC 200 d_MS_rounded_176 (by decide) (fun h14 => ?_) (fun h14 => ?_)
          · skip
            refine wi_iconst hC 0 (by decide) d_MS_rounded_200 ?_
            exact Jt8 false (by exact (Eq.trans eTt8 (Eq.trans (if_neg h13) (if_neg h14))))
          · skip
            refine wi_aload_n hC 4 d_MS_rounded_179 rfl rfl ?_
            refine k_MS_way hC  wd_913 (by decide) (Nat.le_of_ble_eq_true rfl) d_MS_rounded_180 ?_
            refine wi_iload hC 7 d_MS_rounded_183 rfl ?_
            obtain ⟨Tt9, eTt9⟩ : ∃ y : Int32, y = (
                    if a3 = true then
                      1
                    else
                      2) := ⟨_, rfl⟩
            have Jt9 : ∀ (t9 : Int32), Tt9 = t9 → WS p l e { frames := 1, cells := 0, slots := 0, locals := 20 } s m args below meth c Q E 10 193 [(7, .int (bI t6)), (8, .int (bI t5)), (9, .int t1.1), (5, .long t1.2.2.2), (0, .ref 42), (1, .long a1), (3, .int a2), (4, .int (bI a3))] [.int t9, .int (f_MS_way s1)] (σ, s1, q) := by
              intro t9  e_t9
              rw [eTt9] at e_t9
              refine wi_icmp_ne hC 200 d_MS_rounded_193 (by decide) (fun h16 => ?_) (fun h16 => ?_)
              · skip
                refine wi_iconst hC 0 (by decide) d_MS_rounded_200 ?_
                exact Jt8 false (by subst e_t9; exact (Eq.trans eTt8 (Eq.trans (if_neg h13) (Eq.trans (if_pos h14) (if_neg h16)))))
              · skip
                refine wi_iconst hC 1 (by decide) d_MS_rounded_196 ?_
                refine wi_goto hC 201 d_MS_rounded_197 (by decide) ?_
                exact Jt8 true (by subst e_t9; exact (Eq.trans eTt8 (Eq.trans (if_neg h13) (Eq.trans (if_pos h14) (if_pos h16)))))
            refine wi_z_eq (b := a3) hC 192 d_MS_rounded_185 (by decide) (fun h15 => ?_) (fun h15 => ?_)
            · skip
              refine wi_iconst hC 2 (by decide) d_MS_rounded_192 ?_
              exact Jt9 2 (by exact (Eq.trans eTt9 (if_neg h15)))
            · skip
              refine wi_iconst hC 1 (by decide) d_MS_rounded_188 ?_
              refine wi_goto hC 193 d_MS_rounded_189 (by decide) ?_
              exact Jt9 1 (by exact (Eq.trans eTt9 (if_pos h15)))
        · skip
          refine wi_iload hC 0 d_MS_rounded_143 rfl ?_
          refine wi_z_eq (b := t6) hC 168 d_MS_rounded_145 (by decide) (fun h17 => ?_) (fun h17 => ?_)
          · skip
            refine wi_iconst hC 0 (by decide) d_MS_rounded_168 ?_
            refine wi_goto hC 201 d_MS_rounded_169 (by decide) ?_
            exact Jt8 false (by exact (Eq.trans eTt8 (Eq.trans (if_pos h13) (if_neg h17))))
          · skip
            refine wi_iload hC 1 d_MS_rounded_148 rfl ?_
            refine wi_z_ne (b := t5) hC 164 d_MS_rounded_150 (by decide) (fun h18 => ?_) (fun h18 => ?_)
            · skip
              refine wi_iconst hC 1 (by decide) d_MS_rounded_164 ?_
              refine wi_goto hC 201 d_MS_rounded_165 (by decide) ?_
              exact Jt8 true (by exact (Eq.trans eTt8 (Eq.trans (if_pos h13) (Eq.trans (if_pos h17) (if_pos h18)))))
            · skip
              refine wi_lload hC 3 d_MS_rounded_153 rfl ?_
              refine wi_ldc2 hC wd_870 d_MS_rounded_155 ?_
              refine wi_lrem hC (by decide) d_MS_rounded_158 ?_
              refine wi_lconst hC 1 (by decide) d_MS_rounded_159 ?_
              refine wi_lcmp_ne hC 168 d_MS_rounded_160 d_MS_rounded_161 (by decide) (fun h19 => ?_) (fun h19 => ?_)
              · skip
                refine wi_iconst hC 0 (by decide) d_MS_rounded_168 ?_
                refine wi_goto hC 201 d_MS_rounded_169 (by decide) ?_
                exact Jt8 false (by exact (Eq.trans eTt8 (Eq.trans (if_pos h13) (Eq.trans (if_pos h17) (Eq.trans (if_neg h18) (if_neg h19))))))
              · skip
                refine wi_iconst hC 1 (by decide) d_MS_rounded_164 ?_
                refine wi_goto hC 201 d_MS_rounded_165 (by decide) ?_
                exact Jt8 true (by exact (Eq.trans eTt8 (Eq.trans (if_pos h13) (Eq.trans (if_pos h17) (Eq.trans (if_neg h18) (if_pos h19))))))
      refine wi_z_ne (b := t6) hC 128 d_MS_rounded_120 (by decide) (fun h11 => ?_) (fun h11 => ?_)
      · skip
        refine wi_iconst hC 1 (by decide) d_MS_rounded_128 ?_
        refine wi_goto hC 133 d_MS_rounded_129 (by decide) ?_
        exact Jt7 true (by exact (Eq.trans eTt7 (if_pos h11)))
      · skip
        refine wi_iload hC 1 d_MS_rounded_123 rfl ?_
        refine wi_z_eq (b := t5) hC 132 d_MS_rounded_125 (by decide) (fun h12 => ?_) (fun h12 => ?_)
        · skip
          refine wi_iconst hC 0 (by decide) d_MS_rounded_132 ?_
          exact Jt7 false (by exact (Eq.trans eTt7 (Eq.trans (if_neg h11) (if_neg h12))))
        · skip
          refine wi_iconst hC 1 (by decide) d_MS_rounded_128 ?_
          refine wi_goto hC 133 d_MS_rounded_129 (by decide) ?_
          exact Jt7 true (by exact (Eq.trans eTt7 (Eq.trans (if_neg h11) (if_pos h12))))
    refine wi_z_eq (b := t1.2.2.1) hC 114 d_MS_rounded_101 (by decide) (fun h9 => ?_) (fun h9 => ?_)
    · skip
      refine wi_iconst hC 0 (by decide) d_MS_rounded_114 ?_
      exact Jt6 false (by exact (Eq.trans eTt6 (if_neg h9)))
    · skip
      refine wi_iload_n hC 6 d_MS_rounded_104 rfl rfl ?_
      refine wi_bipush hC 70 (by decide) d_MS_rounded_105 ?_
      refine wi_icmp_gt hC 114 d_MS_rounded_107 (by decide) (fun h10 => ?_) (fun h10 => ?_)
      · skip
        refine wi_iconst hC 0 (by decide) d_MS_rounded_114 ?_
        exact Jt6 false (by exact (Eq.trans eTt6 (Eq.trans (if_pos h9) (if_pos h10))))
      · skip
        refine wi_iconst hC 1 (by decide) d_MS_rounded_110 ?_
        refine wi_goto hC 115 d_MS_rounded_111 (by decide) ?_
        exact Jt6 true (by exact (Eq.trans eTt6 (Eq.trans (if_pos h9) (if_neg h10))))
  refine wi_z_ne (b := t1.2.1) hC 92 d_MS_rounded_78 (by decide) (fun h6 => ?_) (fun h6 => ?_)
  · skip
    refine wi_iconst hC 1 (by decide) d_MS_rounded_92 ?_
    refine wi_goto hC 97 d_MS_rounded_93 (by decide) ?_
    exact Jt5 true (by exact (Eq.trans eTt5 (if_pos h6)))
  · skip
    refine wi_iload_n hC 6 d_MS_rounded_81 rfl rfl ?_
    refine wi_bipush hC 70 (by decide) d_MS_rounded_82 ?_
    refine wi_icmp_le hC 96 d_MS_rounded_84 (by decide) (fun h7 => ?_) (fun h7 => ?_)
    · skip
      refine wi_iconst hC 0 (by decide) d_MS_rounded_96 ?_
      exact Jt5 false (by exact (Eq.trans eTt5 (Eq.trans (if_neg h6) (if_pos h7))))
    · skip
      refine wi_iload hC 2 d_MS_rounded_87 rfl ?_
      refine wi_z_eq (b := t1.2.2.1) hC 96 d_MS_rounded_89 (by decide) (fun h8 => ?_) (fun h8 => ?_)
      · skip
        refine wi_iconst hC 0 (by decide) d_MS_rounded_96 ?_
        exact Jt5 false (by exact (Eq.trans eTt5 (Eq.trans (if_neg h6) (Eq.trans (if_neg h7) (if_neg h8)))))
      · skip
        refine wi_iconst hC 1 (by decide) d_MS_rounded_92 ?_
        refine wi_goto hC 97 d_MS_rounded_93 (by decide) ?_
        exact Jt5 true (by exact (Eq.trans eTt5 (Eq.trans (if_neg h6) (Eq.trans (if_neg h7) (if_pos h8)))))
theorem k_MS_rounded {p : Program} {l : Launch} {e : Env} {R : Room} {s : State} {m : MethodId} {args : Array Value} {below : List Frame} {meth : Method} {c : Code} {Q : State → Prop} {E : Ev} {nL pc index : Nat} {lv : List (Nat × Value)} {rest : List Value} {cc : ByteArray} {own : String} {σ τ : St} {q : Int64} {a1 : Int64} {a2 : Int32} (hC : Cx p s m args c cc nL own E) {x_a3 : Int32} (a3 : Bool) (hx_a3 : x_a3 = bI a3)  (hl : Cond.methodLink own index y_MS_rounded ∈ WL) (hR : 1 + 1 ≤ R.frames ∧ 8 + (10 + 11) + 20 ≤ R.locals) (hs8 : (rest.map fun v => v.category).sum ≤ 8) (d : decode cc pc = .ok (.invokevirtual index, 3)) (k : WS p l e R s m args below meth c Q E nL (pc + 3) lv ((.long ((f_MS_rounded τ a1 a2 a3).1)) :: rest) (σ, (f_MS_rounded τ a1 a2 a3).2, q)) : WS p l e R s m args below meth c Q E nL pc lv (.int x_a3 :: .int a2 :: .long a1 :: .ref 42 :: rest) (σ, τ, q) := by
  subst hx_a3
  exact wi_callV hC (n := 3) (vs := [.long a1, .int a2, .int (bI a3)]) (rest := rest) 42 12 (by decide) rfl rfl rfl (c_MS_rounded l E σ τ q a1 a2 a3 ) (by decide +kernel) wd_914 wd_809 wd_915 wd_916 ⟨rfl, rfl⟩ rfl rfl hl hR hs8 d k
set_option maxRecDepth 100000 in
set_option maxHeartbeats 400000 in
theorem c_MS_make (l : Launch) (E : Ev) (σ τ : St) (q : Int64) (a1 : Bool) (a2 : Int64) (a3 : Int32)  : MF l y_MS_make prog_15_method_22_code 13 none { frames := 2, cells := 0, slots := 0, locals := 49 } E [.ref 42, .int (bI a1), .long a2, .int a3] (σ, τ, q) none (σ, (f_MS_make τ a1 a2 a3), q) := by
  refine MF_intro (lv0 := [(0, .ref 42), (1, .int (bI a1)), (2, .long a2), (4, .int a3)]) (by decide) wd_919 (Nat.le_of_ble_eq_true rfl) rfl ?_
  intro p e s m args below meth c Q hC hr hk hQ
  replace hC : Cx p s m args c prog_15_method_22_code 13 "PartnerStackModel$RealStepsModel" E := hC
  refine wi_iload_n hC 1 d_MS_make_0 rfl rfl ?_
  obtain ⟨Tt1, eTt1⟩ : ∃ y : Int32, y = (
          if a1 = true then
            32768
          else
            0) := ⟨_, rfl⟩
  have Jt1 : ∀ (t1 : Int32), Tt1 = t1 → WS p l e { frames := 2, cells := 0, slots := 0, locals := 49 } s m args below meth c Q E 13 10 [(0, .ref 42), (1, .int (bI a1)), (2, .long a2), (4, .int a3)] [.int t1] (σ, τ, q) := by
    intro t1  e_t1
    rw [eTt1] at e_t1
    refine wi_istore hC [(5, .int t1), (0, .ref 42), (1, .int (bI a1)), (2, .long a2), (4, .int a3)] d_MS_make_10 (by decide) rfl ?_
    refine wi_lload_n hC 3 d_MS_make_12 rfl rfl ?_
    refine wi_lconst hC 0 (by decide) d_MS_make_13 ?_
    refine wi_lcmp_ne hC 26 d_MS_make_14 d_MS_make_15 (by decide) (fun h2 => ?_) (fun h2 => ?_)
    · skip
      refine wi_lload_n hC 3 d_MS_make_26 rfl rfl ?_
      refine wi_lstore hC [(6, .long a2), (5, .int t1), (0, .ref 42), (1, .int (bI a1)), (2, .long a2), (4, .int a3)] d_MS_make_27 (by decide) rfl ?_
      refine wi_iload hC 5 d_MS_make_29 rfl ?_
      refine wi_bipush hC 63 (by decide) d_MS_make_31 ?_
      refine wi_iadd hC d_MS_make_33 ?_
      refine wi_nmI (fun v1 e_v1 => ?_)
      refine wi_istore hC [(8, .int v1), (6, .long a2), (5, .int t1), (0, .ref 42), (1, .int (bI a1)), (2, .long a2), (4, .int a3)] d_MS_make_34 (by decide) rfl ?_
      refine wi_loop ((b_MS_make_36)) (fun t3 => True) (fun t3 => [(8, .int t3.1), (6, .long t3.2), (5, .int t1), (0, .ref 42), (1, .int (bI a1)), (2, .long a2), (4, .int a3)]) (fun t3 => (σ, τ, q)) 57 ?_ (fun _ _ _ _ => trivial) (dblf a2) (v1, a2) trivial (dbl_halt (b := (b_MS_make_36)) (fun t => t.2) st_b_MS_make_36 (v1, a2)) ?_
      · intro t3 hi_t3 hc_t3 hx_t3
        refine wi_lload hC 1 d_MS_make_36 rfl ?_
        refine wi_lconst hC 0 (by decide) d_MS_make_38 ?_
        refine wi_lcmp_le hC 57 d_MS_make_39 d_MS_make_40 (by decide) (fun h3 => ?_) (fun h3 => ?_)
        · skip
          exact hx_t3 (t3.1, t3.2) (by exact (if_pos h3))
        · skip
          refine wi_ldc2 hC wd_870 d_MS_make_43 ?_
          refine wi_lload hC 1 d_MS_make_46 rfl ?_
          refine wi_lmul hC d_MS_make_48 ?_
          refine wi_nmJ (fun v2 e_v2 => ?_)
          refine wi_lstore hC [(6, .long v2), (8, .int t3.1), (5, .int t1), (0, .ref 42), (1, .int (bI a1)), (2, .long a2), (4, .int a3)] d_MS_make_49 (by decide) rfl ?_
          obtain ⟨v3, e_v3⟩ : ∃ y : Int32, t3.1 + (-1) = y := ⟨_, rfl⟩
          refine wi_iinc hC 1 v3 [(8, .int v3), (6, .long v2), (5, .int t1), (0, .ref 42), (1, .int (bI a1)), (2, .long a2), (4, .int a3)] d_MS_make_51 rfl (by rw [← e_v3]; rfl) (by decide) rfl ?_
          refine wi_goto hC 36 d_MS_make_54 (by decide) ?_
          exact hc_t3 (v3, v2) (by subst e_v3; subst e_v2; exact (if_neg h3))
      obtain ⟨t2, e_t2⟩ : ∃ y : Int32 × Int64, lpn ((b_MS_make_36)) (dblf a2) (v1, a2) = y := ⟨_, rfl⟩
      rw [e_t2]
      refine wi_iload hC 0 d_MS_make_57 rfl ?_
      refine wi_sipush hC (-16382) (by decide) d_MS_make_59 ?_
      obtain ⟨Tt4, eTt4⟩ : ∃ y : St, y = (
              if (-16382) ≤ t2.1 then
                f_MS_make_b173 τ a1 t1 t2
              else
                if f_MS_masked τ 16 = true then
                  let v4 : Int32 := (-16445) - a3
                  let s1 : St := sZ τ 36 42 false
                  let t5 : Int64 × St := 
                      if v4 ≤ 0 then
                        (a2, s1)
                      else
                        let r1 : Int64 × St := f_MS_rounded s1 a2 v4 a1
                        (r1.1, r1.2)
                  let t6 : Int32 × Int64 := lpn ((b_MS_make_109)) (upf 0 v4) (v4, t5.1)
                  let t8 : St := 
                      if gZ t5.2 36 42 = true then
                        let r2 : Bool × St := f_MS_tell t5.2 16
                        let r3 : Bool × St := f_MS_tell r2.2 32
                        r3.2
                      else
                        t5.2
                  let t9 : Bool := 
                      if 0 ≤ t6.2 then
                        false
                      else
                        true
                  let s2 : St := f_MS_answer t8 (t1 + (bI t9)) t6.2
                  s2
                else
                  f_MS_make_b173 τ a1 t1 t2) := ⟨_, rfl⟩
      have Jt4 : ∀ (t4 : St), Tt4 = t4 → WS p l e { frames := 2, cells := 0, slots := 0, locals := 49 } s m args below meth c Q E 13 353 [(8, .int t2.1), (6, .long t2.2), (5, .int t1), (0, .ref 42), (1, .int (bI a1)), (2, .long a2), (4, .int a3)] [] (σ, t4, q) := by
        intro t4  e_t4
        rw [eTt4] at e_t4
        have hf : f_MS_make τ a1 a2 a3 = t4 := by subst e_t4; subst e_t2; subst e_v1; subst e_t1; exact (if_neg h2)
        exact wi_vret hC hr hk d_MS_make_353 rfl (congrArg (fun z => (σ, z, q)) hf).symm hQ
      have B1 : Tt4 = f_MS_make_b173 τ a1 t1 t2 → WS p l e { frames := 2, cells := 0, slots := 0, locals := 49 } s m args below meth c Q E 13 173 [(8, .int t2.1), (6, .long t2.2), (5, .int t1), (0, .ref 42), (1, .int (bI a1)), (2, .long a2), (4, .int a3)] [] (σ, τ, q) := by
        intro hB1
        refine wi_iload hC 0 d_MS_make_173 rfl ?_
        refine wi_sipush hC (-16382) (by decide) d_MS_make_175 ?_
        refine wi_icmp_ge hC 210 d_MS_make_178 (by decide) (fun h10 => ?_) (fun h10 => ?_)
        · skip
          refine wi_iload hC 0 d_MS_make_210 rfl ?_
          refine wi_sipush hC 16384 (by decide) d_MS_make_212 ?_
          refine wi_icmp_ge hC 236 d_MS_make_215 (by decide) (fun h11 => ?_) (fun h11 => ?_)
          · skip
            refine wi_aload_n hC 3 d_MS_make_236 rfl rfl ?_
            refine wi_bipush hC 8 (by decide) d_MS_make_237 ?_
            refine k_MS_masked hC (by decide) wd_843 (by decide) (Nat.le_of_ble_eq_true rfl) d_MS_make_239 ?_
            refine wi_z_ne (b := (f_MS_masked τ 8)) hC 274 d_MS_make_242 (by decide) (fun h12 => ?_) (fun h12 => ?_)
            · skip
              refine wi_aload_n hC 3 d_MS_make_274 rfl rfl ?_
              refine wi_bipush hC 8 (by decide) d_MS_make_275 ?_
              refine k_MS_tell hC (by decide) wd_853 (by decide) (Nat.le_of_ble_eq_true rfl) d_MS_make_277 ?_
              obtain ⟨r4, e_r4⟩ : ∃ y : Bool × St, f_MS_tell τ 8 = y := ⟨_, rfl⟩
              rw [e_r4]
              refine wi_pop hC rfl d_MS_make_280 ?_
              refine wi_aload_n hC 3 d_MS_make_281 rfl rfl ?_
              refine wi_bipush hC 32 (by decide) d_MS_make_282 ?_
              refine k_MS_tell hC (by decide) wd_853 (by decide) (Nat.le_of_ble_eq_true rfl) d_MS_make_284 ?_
              obtain ⟨r5, e_r5⟩ : ∃ y : Bool × St, f_MS_tell r4.2 32 = y := ⟨_, rfl⟩
              rw [e_r5]
              refine wi_pop hC rfl d_MS_make_287 ?_
              refine wi_aload_n hC 3 d_MS_make_288 rfl rfl ?_
              refine k_MS_way hC  wd_913 (by decide) (Nat.le_of_ble_eq_true rfl) d_MS_make_289 ?_
              obtain ⟨Tt10, eTt10⟩ : ∃ y : Bool, y = (
                      if f_MS_way r5.2 = 0 then
                        true
                      else
                        let t11 : Int32 := 
                            if a1 = true then
                              1
                            else
                              2
                        if f_MS_way r5.2 = t11 then
                          true
                        else
                          false) := ⟨_, rfl⟩
              have Jt10 : ∀ (t10 : Bool), Tt10 = t10 → WS p l e { frames := 2, cells := 0, slots := 0, locals := 49 } s m args below meth c Q E 13 316 [(8, .int t2.1), (6, .long t2.2), (5, .int t1), (0, .ref 42), (1, .int (bI a1)), (2, .long a2), (4, .int a3)] [.int (bI t10)] (σ, r5.2, q) := by
                intro t10  e_t10
                rw [eTt10] at e_t10
                refine wi_istore hC [(9, .int (bI t10)), (8, .int t2.1), (6, .long t2.2), (5, .int t1), (0, .ref 42), (1, .int (bI a1)), (2, .long a2), (4, .int a3)] d_MS_make_316 (by decide) rfl ?_
                refine wi_aload_n hC 4 d_MS_make_318 rfl rfl ?_
                refine wi_iload hC 3 d_MS_make_319 rfl ?_
                refine wi_iload hC 0 d_MS_make_321 rfl ?_
                obtain ⟨Tt12, eTt12⟩ : ∃ y : Int32, y = (
                        if t10 = true then
                          32767
                        else
                          32766) := ⟨_, rfl⟩
                have Jt12 : ∀ (t12 : Int32), Tt12 = t12 → WS p l e { frames := 2, cells := 0, slots := 0, locals := 49 } s m args below meth c Q E 13 335 [(9, .int (bI t10)), (8, .int t2.1), (6, .long t2.2), (5, .int t1), (0, .ref 42), (1, .int (bI a1)), (2, .long a2), (4, .int a3)] [.int t12, .int t1, .ref 42] (σ, r5.2, q) := by
                  intro t12  e_t12
                  rw [eTt12] at e_t12
                  refine wi_iadd hC d_MS_make_335 ?_
                  refine wi_iload hC 0 d_MS_make_336 rfl ?_
                  obtain ⟨Tt13, eTt13⟩ : ∃ y : Int64, y = (
                          if t10 = true then
                            (-9223372036854775808)
                          else
                            (-1)) := ⟨_, rfl⟩
                  have Jt13 : ∀ (t13 : Int64), Tt13 = t13 → WS p l e { frames := 2, cells := 0, slots := 0, locals := 49 } s m args below meth c Q E 13 350 [(9, .int (bI t10)), (8, .int t2.1), (6, .long t2.2), (5, .int t1), (0, .ref 42), (1, .int (bI a1)), (2, .long a2), (4, .int a3)] [.long t13, .int (t1 + t12), .ref 42] (σ, r5.2, q) := by
                    intro t13  e_t13
                    rw [eTt13] at e_t13
                    refine k_MS_answer hC  wd_854 (by decide) (Nat.le_of_ble_eq_true rfl) d_MS_make_350 ?_
                    refine wi_nmM (fun s3 e_s3 => ?_)
                    refine wi_lv [1, 2, 3, 4, 5, 6, 7] [(8, .int t2.1), (6, .long t2.2), (5, .int t1), (0, .ref 42), (1, .int (bI a1)), (2, .long a2), (4, .int a3)] rfl ?_
                    exact Jt4 s3 (by subst e_s3; subst e_t13; subst e_t12; subst e_t10; subst e_r5; subst e_r4; exact (Eq.trans hB1 (Eq.trans (if_pos h10) (Eq.trans (if_pos h11) (if_pos h12)))))
                  refine wi_z_eq (b := t10) hC 347 d_MS_make_338 (by decide) (fun h17 => ?_) (fun h17 => ?_)
                  · skip
                    refine wi_ldc2 hC wd_918 d_MS_make_347 ?_
                    exact Jt13 (-1) (by exact (Eq.trans eTt13 (if_neg h17)))
                  · skip
                    refine wi_ldc2 hC wd_831 d_MS_make_341 ?_
                    refine wi_goto hC 350 d_MS_make_344 (by decide) ?_
                    exact Jt13 (-9223372036854775808) (by exact (Eq.trans eTt13 (if_pos h17)))
                refine wi_z_eq (b := t10) hC 332 d_MS_make_323 (by decide) (fun h16 => ?_) (fun h16 => ?_)
                · skip
                  refine wi_sipush hC 32766 (by decide) d_MS_make_332 ?_
                  exact Jt12 32766 (by exact (Eq.trans eTt12 (if_neg h16)))
                · skip
                  refine wi_sipush hC 32767 (by decide) d_MS_make_326 ?_
                  refine wi_goto hC 335 d_MS_make_329 (by decide) ?_
                  exact Jt12 32767 (by exact (Eq.trans eTt12 (if_pos h16)))
              refine wi_if_eq hC 311 d_MS_make_292 (by decide) (fun h13 => ?_) (fun h13 => ?_)
              · skip
                refine wi_iconst hC 1 (by decide) d_MS_make_311 ?_
                refine wi_goto hC 316 d_MS_make_312 (by decide) ?_
                exact Jt10 true (by exact (Eq.trans eTt10 (if_pos h13)))
              · skip
                refine wi_aload_n hC 3 d_MS_make_295 rfl rfl ?_
                refine k_MS_way hC  wd_913 (by decide) (Nat.le_of_ble_eq_true rfl) d_MS_make_296 ?_
                refine wi_iload_n hC 4 d_MS_make_299 rfl rfl ?_
                obtain ⟨Tt11, eTt11⟩ : ∃ y : Int32, y = (
                        if a1 = true then
                          1
                        else
                          2) := ⟨_, rfl⟩
                have Jt11 : ∀ (t11 : Int32), Tt11 = t11 → WS p l e { frames := 2, cells := 0, slots := 0, locals := 49 } s m args below meth c Q E 13 308 [(8, .int t2.1), (6, .long t2.2), (5, .int t1), (0, .ref 42), (1, .int (bI a1)), (2, .long a2), (4, .int a3)] [.int t11, .int (f_MS_way r5.2)] (σ, r5.2, q) := by
                  intro t11  e_t11
                  rw [eTt11] at e_t11
                  refine wi_icmp_ne hC 315 d_MS_make_308 (by decide) (fun h15 => ?_) (fun h15 => ?_)
                  · skip
                    refine wi_iconst hC 0 (by decide) d_MS_make_315 ?_
                    exact Jt10 false (by subst e_t11; exact (Eq.trans eTt10 (Eq.trans (if_neg h13) (if_neg h15))))
                  · skip
                    refine wi_iconst hC 1 (by decide) d_MS_make_311 ?_
                    refine wi_goto hC 316 d_MS_make_312 (by decide) ?_
                    exact Jt10 true (by subst e_t11; exact (Eq.trans eTt10 (Eq.trans (if_neg h13) (if_pos h15))))
                refine wi_z_eq (b := a1) hC 307 d_MS_make_300 (by decide) (fun h14 => ?_) (fun h14 => ?_)
                · skip
                  refine wi_iconst hC 2 (by decide) d_MS_make_307 ?_
                  exact Jt11 2 (by exact (Eq.trans eTt11 (if_neg h14)))
                · skip
                  refine wi_iconst hC 1 (by decide) d_MS_make_303 ?_
                  refine wi_goto hC 308 d_MS_make_304 (by decide) ?_
                  exact Jt11 1 (by exact (Eq.trans eTt11 (if_pos h14)))
            · skip
              refine wi_aload_n hC 3 d_MS_make_245 rfl rfl ?_
              refine wi_bipush hC 8 (by decide) d_MS_make_246 ?_
              refine k_MS_tell hC (by decide) wd_853 (by decide) (Nat.le_of_ble_eq_true rfl) d_MS_make_248 ?_
              obtain ⟨r6, e_r6⟩ : ∃ y : Bool × St, f_MS_tell τ 8 = y := ⟨_, rfl⟩
              rw [e_r6]
              refine wi_pop hC rfl d_MS_make_251 ?_
              refine wi_aload_n hC 3 d_MS_make_252 rfl rfl ?_
              refine wi_iload hC 2 d_MS_make_253 rfl ?_
              refine wi_iload hC 0 d_MS_make_255 rfl ?_
              refine wi_iadd hC d_MS_make_257 ?_
              refine wi_sipush hC 16383 (by decide) d_MS_make_258 ?_
              refine wi_iadd hC d_MS_make_261 ?_
              refine wi_sipush hC 24576 (by decide) d_MS_make_262 ?_
              refine wi_isub hC d_MS_make_265 ?_
              refine wi_lload hC 1 d_MS_make_266 rfl ?_
              refine k_MS_answer hC  wd_854 (by decide) (Nat.le_of_ble_eq_true rfl) d_MS_make_268 ?_
              refine wi_nmM (fun s4 e_s4 => ?_)
              refine wi_goto hC 353 d_MS_make_271 (by decide) ?_
              exact Jt4 s4 (by subst e_s4; subst e_r6; exact (Eq.trans hB1 (Eq.trans (if_pos h10) (Eq.trans (if_pos h11) (if_neg h12)))))
          · skip
            refine wi_aload_n hC 3 d_MS_make_218 rfl rfl ?_
            refine wi_iload hC 2 d_MS_make_219 rfl ?_
            refine wi_iload hC 0 d_MS_make_221 rfl ?_
            refine wi_iadd hC d_MS_make_223 ?_
            refine wi_sipush hC 16383 (by decide) d_MS_make_224 ?_
            refine wi_iadd hC d_MS_make_227 ?_
            refine wi_lload hC 1 d_MS_make_228 rfl ?_
            refine k_MS_answer hC  wd_854 (by decide) (Nat.le_of_ble_eq_true rfl) d_MS_make_230 ?_
            refine wi_nmM (fun s5 e_s5 => ?_)
            refine wi_goto hC 353 d_MS_make_233 (by decide) ?_
            exact Jt4 s5 (by subst e_s5; exact (Eq.trans hB1 (Eq.trans (if_pos h10) (if_neg h11))))
        · skip
          refine wi_aload_n hC 3 d_MS_make_181 rfl rfl ?_
          refine wi_bipush hC 16 (by decide) d_MS_make_182 ?_
          refine k_MS_tell hC (by decide) wd_853 (by decide) (Nat.le_of_ble_eq_true rfl) d_MS_make_184 ?_
          obtain ⟨r7, e_r7⟩ : ∃ y : Bool × St, f_MS_tell τ 16 = y := ⟨_, rfl⟩
          rw [e_r7]
          refine wi_pop hC rfl d_MS_make_187 ?_
          refine wi_aload_n hC 3 d_MS_make_188 rfl rfl ?_
          refine wi_iload hC 2 d_MS_make_189 rfl ?_
          refine wi_iload hC 0 d_MS_make_191 rfl ?_
          refine wi_iadd hC d_MS_make_193 ?_
          refine wi_sipush hC 16383 (by decide) d_MS_make_194 ?_
          refine wi_iadd hC d_MS_make_197 ?_
          refine wi_sipush hC 24576 (by decide) d_MS_make_198 ?_
          refine wi_iadd hC d_MS_make_201 ?_
          refine wi_lload hC 1 d_MS_make_202 rfl ?_
          refine k_MS_answer hC  wd_854 (by decide) (Nat.le_of_ble_eq_true rfl) d_MS_make_204 ?_
          refine wi_nmM (fun s6 e_s6 => ?_)
          refine wi_goto hC 353 d_MS_make_207 (by decide) ?_
          exact Jt4 s6 (by subst e_s6; subst e_r7; exact (Eq.trans hB1 (if_neg h10)))
      refine wi_icmp_ge hC 173 d_MS_make_62 (by decide) (fun h4 => ?_) (fun h4 => ?_)
      · skip
        exact B1   (by exact (Eq.trans eTt4 (if_pos h4)))
      · skip
        refine wi_aload_n hC 3 d_MS_make_65 rfl rfl ?_
        refine wi_bipush hC 16 (by decide) d_MS_make_66 ?_
        refine k_MS_masked hC (by decide) wd_843 (by decide) (Nat.le_of_ble_eq_true rfl) d_MS_make_68 ?_
        refine wi_z_eq (b := (f_MS_masked τ 16)) hC 173 d_MS_make_71 (by decide) (fun h5 => ?_) (fun h5 => ?_)
        · skip
          exact B1   (by exact (Eq.trans eTt4 (Eq.trans (if_neg h4) (if_neg h5))))
        · skip
          refine wi_sipush hC (-16445) (by decide) d_MS_make_74 ?_
          refine wi_iload hC 6 d_MS_make_77 rfl ?_
          refine wi_isub hC d_MS_make_79 ?_
          refine wi_nmI (fun v4 e_v4 => ?_)
          refine wi_istore hC [(9, .int v4), (8, .int t2.1), (6, .long t2.2), (5, .int t1), (0, .ref 42), (1, .int (bI a1)), (2, .long a2), (4, .int a3)] d_MS_make_80 (by decide) rfl ?_
          refine wi_lload_n hC 6 d_MS_make_82 rfl rfl ?_
          refine wi_lstore hC [(10, .long a2), (9, .int v4), (8, .int t2.1), (6, .long t2.2), (5, .int t1), (0, .ref 42), (1, .int (bI a1)), (2, .long a2), (4, .int a3)] d_MS_make_83 (by decide) rfl ?_
          refine wi_aload_n hC 5 d_MS_make_85 rfl rfl ?_
          refine wi_iconst hC 0 (by decide) d_MS_make_86 ?_
          refine wp_MS_lost hC false rfl wd_912 d_MS_make_87 ?_
          refine wi_nmM (fun s1 e_s1 => ?_)
          refine wi_iload hC 1 d_MS_make_90 rfl ?_
          obtain ⟨Tt5, eTt5⟩ : ∃ y : Int64 × St, y = (
                  if v4 ≤ 0 then
                    (a2, s1)
                  else
                    let r1 : Int64 × St := f_MS_rounded s1 a2 v4 a1
                    (r1.1, r1.2)) := ⟨_, rfl⟩
          have Jt5 : ∀ (t5 : Int64 × St), Tt5 = t5 → WS p l e { frames := 2, cells := 0, slots := 0, locals := 49 } s m args below meth c Q E 13 105 [(10, .long t5.1), (9, .int v4), (8, .int t2.1), (6, .long t2.2), (5, .int t1), (0, .ref 42), (1, .int (bI a1)), (2, .long a2), (4, .int a3)] [] (σ, t5.2, q) := by
            intro t5  e_t5
            rw [eTt5] at e_t5
            refine wi_iload hC 1 d_MS_make_105 rfl ?_
            refine wi_istore hC [(12, .int v4), (10, .long t5.1), (9, .int v4), (8, .int t2.1), (6, .long t2.2), (5, .int t1), (0, .ref 42), (1, .int (bI a1)), (2, .long a2), (4, .int a3)] d_MS_make_107 (by decide) rfl ?_
            refine wi_loop ((b_MS_make_109)) (fun t7 => True) (fun t7 => [(12, .int t7.1), (10, .long t7.2), (9, .int v4), (8, .int t2.1), (6, .long t2.2), (5, .int t1), (0, .ref 42), (1, .int (bI a1)), (2, .long a2), (4, .int a3)]) (fun t7 => (σ, t5.2, q)) 128 ?_ (fun _ _ _ _ => trivial) (upf 0 v4) (v4, t5.1) trivial (up_halt (b := (b_MS_make_109)) (fun t => t.1) 0 st_b_MS_make_109 (v4, t5.1)) ?_
            · intro t7 hi_t7 hc_t7 hx_t7
              refine wi_iload hC 0 d_MS_make_109 rfl ?_
              refine wi_if_ge hC 128 d_MS_make_111 (by decide) (fun h7 => ?_) (fun h7 => ?_)
              · skip
                exact hx_t7 (t7.1, t7.2) (by exact (if_pos h7))
              · skip
                refine wi_ldc2 hC wd_870 d_MS_make_114 ?_
                refine wi_lload hC 1 d_MS_make_117 rfl ?_
                refine wi_lmul hC d_MS_make_119 ?_
                refine wi_nmJ (fun v5 e_v5 => ?_)
                refine wi_lstore hC [(10, .long v5), (12, .int t7.1), (9, .int v4), (8, .int t2.1), (6, .long t2.2), (5, .int t1), (0, .ref 42), (1, .int (bI a1)), (2, .long a2), (4, .int a3)] d_MS_make_120 (by decide) rfl ?_
                obtain ⟨v6, e_v6⟩ : ∃ y : Int32, t7.1 + 1 = y := ⟨_, rfl⟩
                refine wi_iinc hC 1 v6 [(12, .int v6), (10, .long v5), (9, .int v4), (8, .int t2.1), (6, .long t2.2), (5, .int t1), (0, .ref 42), (1, .int (bI a1)), (2, .long a2), (4, .int a3)] d_MS_make_122 rfl (by rw [← e_v6]; rfl) (by decide) rfl ?_
                refine wi_goto hC 109 d_MS_make_125 (by decide) ?_
                exact hc_t7 (v6, v5) (by subst e_v6; subst e_v5; exact (if_neg h7))
            obtain ⟨t6, e_t6⟩ : ∃ y : Int32 × Int64, lpn ((b_MS_make_109)) (upf 0 v4) (v4, t5.1) = y := ⟨_, rfl⟩
            rw [e_t6]
            refine wi_aload_n hC 6 d_MS_make_128 rfl rfl ?_
            refine wg_MS_lost hC wd_912 d_MS_make_129 ?_
            obtain ⟨Tt8, eTt8⟩ : ∃ y : St, y = (
                    if gZ t5.2 36 42 = true then
                      let r2 : Bool × St := f_MS_tell t5.2 16
                      let r3 : Bool × St := f_MS_tell r2.2 32
                      r3.2
                    else
                      t5.2) := ⟨_, rfl⟩
            have Jt8 : ∀ (t8 : St), Tt8 = t8 → WS p l e { frames := 2, cells := 0, slots := 0, locals := 49 } s m args below meth c Q E 13 149 [(12, .int t6.1), (10, .long t6.2), (9, .int v4), (8, .int t2.1), (6, .long t2.2), (5, .int t1), (0, .ref 42), (1, .int (bI a1)), (2, .long a2), (4, .int a3)] [] (σ, t8, q) := by
              intro t8  e_t8
              rw [eTt8] at e_t8
              refine wi_aload_n hC 6 d_MS_make_149 rfl rfl ?_
              refine wi_iload hC 5 d_MS_make_150 rfl ?_
              refine wi_lload hC 1 d_MS_make_152 rfl ?_
              refine wi_lconst hC 0 (by decide) d_MS_make_154 ?_
              obtain ⟨Tt9, eTt9⟩ : ∃ y : Bool, y = (
                      if 0 ≤ t6.2 then
                        false
                      else
                        true) := ⟨_, rfl⟩
              have Jt9 : ∀ (t9 : Bool), Tt9 = t9 → WS p l e { frames := 2, cells := 0, slots := 0, locals := 49 } s m args below meth c Q E 13 164 [(12, .int t6.1), (10, .long t6.2), (9, .int v4), (8, .int t2.1), (6, .long t2.2), (5, .int t1), (0, .ref 42), (1, .int (bI a1)), (2, .long a2), (4, .int a3)] [.int (bI t9), .int t1, .ref 42] (σ, t8, q) := by
                intro t9  e_t9
                rw [eTt9] at e_t9
                refine wi_iadd hC d_MS_make_164 ?_
                refine wi_lload hC 1 d_MS_make_165 rfl ?_
                refine k_MS_answer hC  wd_854 (by decide) (Nat.le_of_ble_eq_true rfl) d_MS_make_167 ?_
                refine wi_nmM (fun s2 e_s2 => ?_)
                refine wi_goto hC 353 d_MS_make_170 (by decide) ?_
                refine wi_lv [3, 4, 5, 6, 7, 8, 9] [(8, .int t2.1), (6, .long t2.2), (5, .int t1), (0, .ref 42), (1, .int (bI a1)), (2, .long a2), (4, .int a3)] rfl ?_
                exact Jt4 s2 (by subst e_s2; subst e_t9; subst e_t8; subst e_t6; subst e_t5; subst e_s1; subst e_v4; exact (Eq.trans eTt4 (Eq.trans (if_neg h4) (if_pos h5))))
              refine wi_lcmp_ge hC 163 d_MS_make_155 d_MS_make_156 (by decide) (fun h9 => ?_) (fun h9 => ?_)
              · skip
                refine wi_iconst hC 0 (by decide) d_MS_make_163 ?_
                exact Jt9 false (by exact (Eq.trans eTt9 (if_pos h9)))
              · skip
                refine wi_iconst hC 1 (by decide) d_MS_make_159 ?_
                refine wi_goto hC 164 d_MS_make_160 (by decide) ?_
                exact Jt9 true (by exact (Eq.trans eTt9 (if_neg h9)))
            refine wi_z_eq (b := (gZ t5.2 36 42)) hC 149 d_MS_make_132 (by decide) (fun h8 => ?_) (fun h8 => ?_)
            · skip
              exact Jt8 t5.2 (by exact (Eq.trans eTt8 (if_neg h8)))
            · skip
              refine wi_aload_n hC 6 d_MS_make_135 rfl rfl ?_
              refine wi_bipush hC 16 (by decide) d_MS_make_136 ?_
              refine k_MS_tell hC (by decide) wd_853 (by decide) (Nat.le_of_ble_eq_true rfl) d_MS_make_138 ?_
              obtain ⟨r2, e_r2⟩ : ∃ y : Bool × St, f_MS_tell t5.2 16 = y := ⟨_, rfl⟩
              rw [e_r2]
              refine wi_pop hC rfl d_MS_make_141 ?_
              refine wi_aload_n hC 6 d_MS_make_142 rfl rfl ?_
              refine wi_bipush hC 32 (by decide) d_MS_make_143 ?_
              refine k_MS_tell hC (by decide) wd_853 (by decide) (Nat.le_of_ble_eq_true rfl) d_MS_make_145 ?_
              obtain ⟨r3, e_r3⟩ : ∃ y : Bool × St, f_MS_tell r2.2 32 = y := ⟨_, rfl⟩
              rw [e_r3]
              refine wi_pop hC rfl d_MS_make_148 ?_
              exact Jt8 r3.2 (by subst e_r3; subst e_r2; exact (Eq.trans eTt8 (if_pos h8)))
          refine wi_if_le hC 105 d_MS_make_92 (by decide) (fun h6 => ?_) (fun h6 => ?_)
          · skip
            exact Jt5 (a2, s1) (by exact (Eq.trans eTt5 (if_pos h6)))
          · skip
            refine wi_aload_n hC 5 d_MS_make_95 rfl rfl ?_
            refine wi_lload_n hC 7 d_MS_make_96 rfl rfl ?_
            refine wi_iload hC 1 d_MS_make_97 rfl ?_
            refine wi_iload_n hC 6 d_MS_make_99 rfl rfl ?_
            refine k_MS_rounded hC a1 rfl wd_917 (by decide) (Nat.le_of_ble_eq_true rfl) d_MS_make_100 ?_
            obtain ⟨r1, e_r1⟩ : ∃ y : Int64 × St, f_MS_rounded s1 a2 v4 a1 = y := ⟨_, rfl⟩
            rw [e_r1]
            refine wi_lstore hC [(10, .long r1.1), (9, .int v4), (8, .int t2.1), (6, .long t2.2), (5, .int t1), (0, .ref 42), (1, .int (bI a1)), (2, .long a2), (4, .int a3)] d_MS_make_103 (by decide) rfl ?_
            exact Jt5 (r1.1, r1.2) (by subst e_r1; exact (Eq.trans eTt5 (if_neg h6)))
    · skip
      refine wi_aload_n hC 1 d_MS_make_18 rfl rfl ?_
      refine wi_iload hC 0 d_MS_make_19 rfl ?_
      refine wi_lconst hC 0 (by decide) d_MS_make_21 ?_
      refine k_MS_answer hC  wd_854 (by decide) (Nat.le_of_ble_eq_true rfl) d_MS_make_22 ?_
      refine wi_nmM (fun s7 e_s7 => ?_)
      have hf : f_MS_make τ a1 a2 a3 = s7 := by subst e_s7; subst e_t1; exact (if_pos h2)
      exact wi_vret hC hr hk d_MS_make_25 rfl (congrArg (fun z => (σ, z, q)) hf).symm hQ
  refine wi_z_eq (b := a1) hC 9 d_MS_make_1 (by decide) (fun h1 => ?_) (fun h1 => ?_)
  · skip
    refine wi_iconst hC 0 (by decide) d_MS_make_9 ?_
    exact Jt1 0 (by exact (Eq.trans eTt1 (if_neg h1)))
  · skip
    refine wi_ldc hC wd_830 d_MS_make_4 ?_
    refine wi_goto hC 10 d_MS_make_6 (by decide) ?_
    exact Jt1 32768 (by exact (Eq.trans eTt1 (if_pos h1)))
theorem k_MS_make {p : Program} {l : Launch} {e : Env} {R : Room} {s : State} {m : MethodId} {args : Array Value} {below : List Frame} {meth : Method} {c : Code} {Q : State → Prop} {E : Ev} {nL pc index : Nat} {lv : List (Nat × Value)} {rest : List Value} {cc : ByteArray} {own : String} {σ τ : St} {q : Int64} {a2 : Int64} {a3 : Int32} (hC : Cx p s m args c cc nL own E) {x_a1 : Int32} (a1 : Bool) (hx_a1 : x_a1 = bI a1)  (hl : Cond.methodLink own index y_MS_make ∈ WL) (hR : 2 + 1 ≤ R.frames ∧ 8 + (13 + 11) + 49 ≤ R.locals) (hs8 : (rest.map fun v => v.category).sum ≤ 8) (d : decode cc pc = .ok (.invokevirtual index, 3)) (k : WS p l e R s m args below meth c Q E nL (pc + 3) lv rest (σ, (f_MS_make τ a1 a2 a3), q)) : WS p l e R s m args below meth c Q E nL pc lv (.int a3 :: .long a2 :: .int x_a1 :: .ref 42 :: rest) (σ, τ, q) := by
  subst hx_a1
  exact wi_callV hC (n := 3) (vs := [.int (bI a1), .long a2, .int a3]) (rest := rest) 42 12 (by decide) rfl rfl rfl (c_MS_make l E σ τ q a1 a2 a3 ) (by decide +kernel) wd_919 wd_809 wd_920 wd_921 ⟨rfl, rfl⟩ rfl rfl hl hR hs8 d k
set_option maxRecDepth 100000 in
set_option maxHeartbeats 400000 in
theorem c_MS_keep (l : Launch) (E : Ev) (σ τ : St) (q : Int64) (a1 : Int32) (hp : vp_in a1 8) : MF l y_MS_keep prog_15_method_23_code 2 none { frames := 0, cells := 0, slots := 0, locals := 0 } E [.ref 42, .int a1] (σ, τ, q) none (σ, (f_MS_keep τ a1), q) := by
  refine MF_intro (lv0 := [(0, .ref 42), (1, .int a1)]) (by decide) wd_922 (Nat.le_of_ble_eq_true rfl) rfl ?_
  intro p e s m args below meth c Q hC hr hk hQ
  replace hC : Cx p s m args c prog_15_method_23_code 2 "PartnerStackModel$RealStepsModel" E := hC
  refine wi_aload_n hC 0 d_MS_keep_0 rfl rfl ?_
  refine wg_MS_answered hC wd_826 d_MS_keep_1 ?_
  refine wi_z_ne (b := (gZ τ 29 42)) hC 8 d_MS_keep_4 (by decide) (fun h1 => ?_) (fun h1 => ?_)
  · skip
    refine wi_aload_n hC 0 d_MS_keep_8 rfl rfl ?_
    refine wg_MS_top hC wd_815 d_MS_keep_9 ?_
    refine wi_iload_n hC 1 d_MS_keep_12 rfl rfl ?_
    refine wi_aload_n hC 0 d_MS_keep_13 rfl rfl ?_
    refine wg_MS_answerTop hC wd_847 d_MS_keep_14 ?_
    refine wa_st43 hC hp d_MS_keep_17 ?_
    refine wi_nmM (fun s1 e_s1 => ?_)
    refine wi_aload_n hC 0 d_MS_keep_18 rfl rfl ?_
    refine wg_MS_fraction hC wd_816 d_MS_keep_19 ?_
    refine wi_iload_n hC 1 d_MS_keep_22 rfl rfl ?_
    refine wi_aload_n hC 0 d_MS_keep_23 rfl rfl ?_
    refine wg_MS_answerFraction hC wd_848 d_MS_keep_24 ?_
    refine wa_st44 hC hp d_MS_keep_27 ?_
    refine wi_nmM (fun s2 e_s2 => ?_)
    have hf : f_MS_keep τ a1 = s2 := by subst e_s2; subst e_s1; exact (if_pos h1)
    exact wi_vret hC hr hk d_MS_keep_28 rfl (congrArg (fun z => (σ, z, q)) hf).symm hQ
  · skip
    have hf : f_MS_keep τ a1 = τ := by exact (if_neg h1)
    exact wi_vret hC hr hk d_MS_keep_7 rfl (congrArg (fun z => (σ, z, q)) hf).symm hQ
theorem k_MS_keep {p : Program} {l : Launch} {e : Env} {R : Room} {s : State} {m : MethodId} {args : Array Value} {below : List Frame} {meth : Method} {c : Code} {Q : State → Prop} {E : Ev} {nL pc index : Nat} {lv : List (Nat × Value)} {rest : List Value} {cc : ByteArray} {own : String} {σ τ : St} {q : Int64} {a1 : Int32} (hC : Cx p s m args c cc nL own E)  (hp : vp_in a1 8) (hl : Cond.methodLink own index y_MS_keep ∈ WL) (hR : 0 + 1 ≤ R.frames ∧ 8 + (2 + 11) + 0 ≤ R.locals) (hs8 : (rest.map fun v => v.category).sum ≤ 8) (d : decode cc pc = .ok (.invokevirtual index, 3)) (k : WS p l e R s m args below meth c Q E nL (pc + 3) lv rest (σ, (f_MS_keep τ a1), q)) : WS p l e R s m args below meth c Q E nL pc lv (.int a1 :: .ref 42 :: rest) (σ, τ, q) := by
  exact wi_callV hC (n := 1) (vs := [.int a1]) (rest := rest) 42 12 (by decide) rfl rfl rfl (c_MS_keep l E σ τ q a1 hp) (by decide +kernel) wd_922 wd_809 wd_923 wd_924 ⟨rfl, rfl⟩ rfl rfl hl hR hs8 d k
set_option maxRecDepth 100000 in
set_option maxHeartbeats 400000 in
theorem c_MS_extract (l : Launch) (E : Ev) (σ τ : St) (q : Int64) (a1 : Int32) (a2 : Int32) (a3 : Int32) (hp : vp_in a1 8) (hq : vp_in a2 8) (hs : vp_in a3 8) : MF l y_MS_extract prog_15_method_26_code 10 (some .int) { frames := 3, cells := 0, slots := 0, locals := 81 } E [.ref 42, .int a1, .int a2, .int a3] (σ, τ, q) (some (.int ((f_MS_extract τ a1 a2 a3).1))) (σ, (f_MS_extract τ a1 a2 a3).2, q) := by
  refine MF_intro (lv0 := [(0, .ref 42), (1, .int a1), (2, .int a2), (3, .int a3)]) (by decide) wd_927 (Nat.le_of_ble_eq_true rfl) rfl ?_
  intro p e s m args below meth c Q hC hr hk hQ
  replace hC : Cx p s m args c prog_15_method_26_code 10 "PartnerStackModel$RealStepsModel" E := hC
  refine wi_aload_n hC 0 d_MS_extract_0 rfl rfl ?_
  refine wi_iload_n hC 1 d_MS_extract_1 rfl rfl ?_
  refine k_MS_none hC  wd_814 (by decide) (Nat.le_of_ble_eq_true rfl) d_MS_extract_2 ?_
  obtain ⟨Tt1, eTt1⟩ : ∃ y : Int32, y = (
          if f_MS_none a1 = true then
            1
          else
            if f_MS_none a2 = true then
              1
            else
              if f_MS_none a3 = true then
                1
              else
                if a2 = a3 then
                  2
                else
                  0) := ⟨_, rfl⟩
  have Jt1 : ∀ (t1 : Int32), Tt1 = t1 → WS p l e { frames := 3, cells := 0, slots := 0, locals := 81 } s m args below meth c Q E 10 36 [(0, .ref 42), (1, .int a1), (2, .int a2), (3, .int a3)] [.int t1, .ref 42] (σ, τ, q) := by
    intro t1  e_t1
    rw [eTt1] at e_t1
    refine wp_MS_code hC wd_806 d_MS_extract_36 ?_
    refine wi_nmM (fun s1 e_s1 => ?_)
    refine wi_aload_n hC 0 d_MS_extract_39 rfl rfl ?_
    refine wg_MS_code hC wd_806 d_MS_extract_40 ?_
    refine wi_if_le hC 48 d_MS_extract_43 (by decide) (fun h5 => ?_) (fun h5 => ?_)
    · skip
      refine wi_aload_n hC 0 d_MS_extract_48 rfl rfl ?_
      refine k_MS_begin hC  wd_879 (by decide) (Nat.le_of_ble_eq_true rfl) d_MS_extract_49 ?_
      refine wi_nmM (fun s2 e_s2 => ?_)
      refine wi_iconst hC 0 (by decide) d_MS_extract_52 ?_
      refine wi_istore hC [(4, .int 0), (0, .ref 42), (1, .int a1), (2, .int a2), (3, .int a3)] d_MS_extract_53 (by decide) rfl ?_
      refine wi_lconst hC 0 (by decide) d_MS_extract_55 ?_
      refine wi_lstore hC [(5, .long 0), (4, .int 0), (0, .ref 42), (1, .int a1), (2, .int a2), (3, .int a3)] d_MS_extract_56 (by decide) rfl ?_
      refine wi_aload_n hC 2 d_MS_extract_58 rfl rfl ?_
      refine wi_iload_n hC 3 d_MS_extract_59 rfl rfl ?_
      refine wi_iconst hC (-1) (by decide) d_MS_extract_60 ?_
      refine wi_iconst hC 1 (by decide) d_MS_extract_61 ?_
      refine k_MS_goesOn_n hC true rfl hp wd_880 (by decide) (Nat.le_of_ble_eq_true rfl) d_MS_extract_62 ?_
      obtain ⟨r1, e_r1⟩ : ∃ y : Bool × St, f_MS_goesOn_n s2 a1 true = y := ⟨_, rfl⟩
      rw [e_r1]
      obtain ⟨Tt2, eTt2⟩ : ∃ y : Int64 × Int32 × St, y = (
              if r1.1 = true then
                if f_MS_kind r1.2 a1 = 4 then
                  let s7 : St := f_MS_answer r1.2 (gI r1.2 110 (jat a1)) (gJ r1.2 111 (jat a1))
                  ((-9223372036854775808), 32767, s7)
                else
                  if f_MS_nothing r1.2 a1 = true then
                    let r2 : Bool × St := f_MS_tell r1.2 4
                    if r2.1 = true then
                      let t5 : Int32 := 
                          if f_MS_minus r2.2 a1 = true then
                            32768
                          else
                            0
                      let s6 : St := f_MS_answer r2.2 t5 0
                      ((-9223372036854775808), 65535, s6)
                    else
                      ((-9223372036854775808), 65535, r2.2)
                  else
                    let s3 : St := f_MS_apart r1.2 a1
                    let v3 : Int32 := gI s3 35 42
                    let v4 : Int64 := gJ s3 34 42
                    let t3 : Bool := 
                        if 0 ≤ v3 then
                          false
                        else
                          true
                    let t4 : Int64 := 
                        if 0 ≤ v3 then
                          Int32.toInt64 v3
                        else
                          Int32.toInt64 (-v3)
                    let s4 : St := f_MS_make s3 t3 t4 0
                    let v5 : Int32 := gI s4 32 42
                    let v6 : Int64 := gJ s4 33 42
                    let s5 : St := f_MS_make s4 (f_MS_minus s4 a1) v4 (-63)
                    (v6, v5, s5)
              else
                let v1 : Int32 := gI r1.2 32 42
                let v2 : Int64 := gJ r1.2 33 42
                (v2, v1, r1.2)) := ⟨_, rfl⟩
      have Jt2 : ∀ (t2 : Int64 × Int32 × St), Tt2 = t2 → WS p l e { frames := 3, cells := 0, slots := 0, locals := 81 } s m args below meth c Q E 10 240 [(5, .long t2.1), (4, .int t2.2.1), (0, .ref 42), (1, .int a1), (2, .int a2), (3, .int a3)] [] (σ, t2.2.2, q) := by
        intro t2  e_t2
        rw [eTt2] at e_t2
        refine wi_aload_n hC 2 d_MS_extract_240 rfl rfl ?_
        refine wg_MS_answered hC wd_826 d_MS_extract_241 ?_
        obtain ⟨Tt6, eTt6⟩ : ∃ y : St, y = (
                if gZ t2.2.2 29 42 = true then
                  let s8 : St := f_MS_keep t2.2.2 a3
                  let s9 : St := sI s8 110 (jat a2) t2.2.1
                  let s10 : St := sJ s9 111 (jat a2) t2.1
                  s10
                else
                  t2.2.2) := ⟨_, rfl⟩
        have Jt6 : ∀ (t6 : St), Tt6 = t6 → WS p l e { frames := 3, cells := 0, slots := 0, locals := 81 } s m args below meth c Q E 10 268 [(5, .long t2.1), (4, .int t2.2.1), (0, .ref 42), (1, .int a1), (2, .int a2), (3, .int a3)] [] (σ, t6, q) := by
          intro t6  e_t6
          rw [eTt6] at e_t6
          refine wi_aload_n hC 2 d_MS_extract_268 rfl rfl ?_
          refine wg_MS_told hC wd_825 d_MS_extract_269 ?_
          have hf : f_MS_extract τ a1 a2 a3 = (gI t6 28 42, t6) := by subst e_t6; subst e_t2; subst e_r1; subst e_s2; subst e_s1; subst e_t1; exact (if_pos h5)
          exact wi_iret hC hr hk d_MS_extract_272 (congrArg (fun z => some (Value.int z.1)) hf) (congrArg (fun z => (σ, z.2, q)) hf).symm hQ
        refine wi_z_eq (b := (gZ t2.2.2 29 42)) hC 268 d_MS_extract_244 (by decide) (fun h13 => ?_) (fun h13 => ?_)
        · skip
          exact Jt6 t2.2.2 (by exact (Eq.trans eTt6 (if_neg h13)))
        · skip
          refine wi_aload_n hC 2 d_MS_extract_247 rfl rfl ?_
          refine wi_iload_n hC 5 d_MS_extract_248 rfl rfl ?_
          refine k_MS_keep hC hs wd_926 (by decide) (Nat.le_of_ble_eq_true rfl) d_MS_extract_249 ?_
          refine wi_nmM (fun s8 e_s8 => ?_)
          refine wi_aload_n hC 2 d_MS_extract_252 rfl rfl ?_
          refine wg_MS_top hC wd_815 d_MS_extract_253 ?_
          refine wi_iload_n hC 4 d_MS_extract_256 rfl rfl ?_
          refine wi_iload hC 1 d_MS_extract_257 rfl ?_
          refine wa_st43 hC hq d_MS_extract_259 ?_
          refine wi_nmM (fun s9 e_s9 => ?_)
          refine wi_aload_n hC 2 d_MS_extract_260 rfl rfl ?_
          refine wg_MS_fraction hC wd_816 d_MS_extract_261 ?_
          refine wi_iload_n hC 4 d_MS_extract_264 rfl rfl ?_
          refine wi_lload hC 0 d_MS_extract_265 rfl ?_
          refine wa_st44 hC hq d_MS_extract_267 ?_
          refine wi_nmM (fun s10 e_s10 => ?_)
          exact Jt6 s10 (by subst e_s10; subst e_s9; subst e_s8; exact (Eq.trans eTt6 (if_pos h13)))
      refine wi_z_eq (b := r1.1) hC 228 d_MS_extract_65 (by decide) (fun h6 => ?_) (fun h6 => ?_)
      · skip
        refine wi_aload_n hC 2 d_MS_extract_228 rfl rfl ?_
        refine wg_MS_answerTop hC wd_847 d_MS_extract_229 ?_
        refine wi_nmI (fun v1 e_v1 => ?_)
        refine wi_istore hC [(4, .int v1), (5, .long 0), (0, .ref 42), (1, .int a1), (2, .int a2), (3, .int a3)] d_MS_extract_232 (by decide) rfl ?_
        refine wi_aload_n hC 2 d_MS_extract_234 rfl rfl ?_
        refine wg_MS_answerFraction hC wd_848 d_MS_extract_235 ?_
        refine wi_nmJ (fun v2 e_v2 => ?_)
        refine wi_lstore hC [(5, .long v2), (4, .int v1), (0, .ref 42), (1, .int a1), (2, .int a2), (3, .int a3)] d_MS_extract_238 (by decide) rfl ?_
        exact Jt2 (v2, v1, r1.2) (by subst e_v2; subst e_v1; exact (Eq.trans eTt2 (if_neg h6)))
      · skip
        refine wi_aload_n hC 2 d_MS_extract_68 rfl rfl ?_
        refine wi_iload_n hC 3 d_MS_extract_69 rfl rfl ?_
        refine k_MS_kind hC hp wd_852 (by decide) (Nat.le_of_ble_eq_true rfl) d_MS_extract_70 ?_
        refine wi_iconst hC 4 (by decide) d_MS_extract_73 ?_
        refine wi_icmp_ne hC 106 d_MS_extract_74 (by decide) (fun h7 => ?_) (fun h7 => ?_)
        · skip
          refine wi_aload_n hC 2 d_MS_extract_106 rfl rfl ?_
          refine wi_iload_n hC 3 d_MS_extract_107 rfl rfl ?_
          refine k_MS_nothing hC hp wd_874 (by decide) (Nat.le_of_ble_eq_true rfl) d_MS_extract_108 ?_
          refine wi_z_eq (b := (f_MS_nothing r1.2 a1)) hC 153 d_MS_extract_111 (by decide) (fun h8 => ?_) (fun h8 => ?_)
          · skip
            refine wi_aload_n hC 2 d_MS_extract_153 rfl rfl ?_
            refine wi_iload_n hC 3 d_MS_extract_154 rfl rfl ?_
            refine k_MS_apart hC hp wd_878 (by decide) (Nat.le_of_ble_eq_true rfl) d_MS_extract_155 ?_
            refine wi_nmM (fun s3 e_s3 => ?_)
            refine wi_aload_n hC 2 d_MS_extract_158 rfl rfl ?_
            refine wg_MS_first hC wd_869 d_MS_extract_159 ?_
            refine wi_nmI (fun v3 e_v3 => ?_)
            refine wi_istore hC [(7, .int v3), (5, .long 0), (4, .int 0), (0, .ref 42), (1, .int a1), (2, .int a2), (3, .int a3)] d_MS_extract_162 (by decide) rfl ?_
            refine wi_aload_n hC 3 d_MS_extract_164 rfl rfl ?_
            refine wg_MS_digits hC wd_867 d_MS_extract_165 ?_
            refine wi_nmJ (fun v4 e_v4 => ?_)
            refine wi_lstore hC [(8, .long v4), (7, .int v3), (5, .long 0), (4, .int 0), (0, .ref 42), (1, .int a1), (2, .int a2), (3, .int a3)] d_MS_extract_168 (by decide) rfl ?_
            refine wi_aload_n hC 4 d_MS_extract_170 rfl rfl ?_
            refine wi_iload hC 1 d_MS_extract_171 rfl ?_
            obtain ⟨Tt3, eTt3⟩ : ∃ y : Bool, y = (
                    if 0 ≤ v3 then
                      false
                    else
                      true) := ⟨_, rfl⟩
            have Jt3 : ∀ (t3 : Bool), Tt3 = t3 → WS p l e { frames := 3, cells := 0, slots := 0, locals := 81 } s m args below meth c Q E 10 181 [(8, .long v4), (7, .int v3), (5, .long 0), (4, .int 0), (0, .ref 42), (1, .int a1), (2, .int a2), (3, .int a3)] [.int (bI t3), .ref 42] (σ, s3, q) := by
              intro t3  e_t3
              rw [eTt3] at e_t3
              refine wi_iload hC 1 d_MS_extract_181 rfl ?_
              obtain ⟨Tt4, eTt4⟩ : ∃ y : Int64, y = (
                      if 0 ≤ v3 then
                        Int32.toInt64 v3
                      else
                        Int32.toInt64 (-v3)) := ⟨_, rfl⟩
              have Jt4 : ∀ (t4 : Int64), Tt4 = t4 → WS p l e { frames := 3, cells := 0, slots := 0, locals := 81 } s m args below meth c Q E 10 196 [(8, .long v4), (7, .int v3), (5, .long 0), (4, .int 0), (0, .ref 42), (1, .int a1), (2, .int a2), (3, .int a3)] [.long t4, .int (bI t3), .ref 42] (σ, s3, q) := by
                intro t4  e_t4
                rw [eTt4] at e_t4
                refine wi_iconst hC 0 (by decide) d_MS_extract_196 ?_
                refine k_MS_make hC t3 rfl wd_925 (by decide) (Nat.le_of_ble_eq_true rfl) d_MS_extract_197 ?_
                refine wi_nmM (fun s4 e_s4 => ?_)
                refine wi_aload_n hC 4 d_MS_extract_200 rfl rfl ?_
                refine wg_MS_answerTop hC wd_847 d_MS_extract_201 ?_
                refine wi_nmI (fun v5 e_v5 => ?_)
                refine wi_istore hC [(4, .int v5), (8, .long v4), (7, .int v3), (5, .long 0), (0, .ref 42), (1, .int a1), (2, .int a2), (3, .int a3)] d_MS_extract_204 (by decide) rfl ?_
                refine wi_aload_n hC 4 d_MS_extract_206 rfl rfl ?_
                refine wg_MS_answerFraction hC wd_848 d_MS_extract_207 ?_
                refine wi_nmJ (fun v6 e_v6 => ?_)
                refine wi_lstore hC [(5, .long v6), (4, .int v5), (8, .long v4), (7, .int v3), (0, .ref 42), (1, .int a1), (2, .int a2), (3, .int a3)] d_MS_extract_210 (by decide) rfl ?_
                refine wi_aload_n hC 4 d_MS_extract_212 rfl rfl ?_
                refine wi_aload_n hC 4 d_MS_extract_213 rfl rfl ?_
                refine wi_iload_n hC 5 d_MS_extract_214 rfl rfl ?_
                refine k_MS_minus hC hp wd_860 (by decide) (Nat.le_of_ble_eq_true rfl) d_MS_extract_215 ?_
                refine wi_lload hC 2 d_MS_extract_218 rfl ?_
                refine wi_bipush hC (-63) (by decide) d_MS_extract_220 ?_
                refine k_MS_make hC (f_MS_minus s4 a1) rfl wd_925 (by decide) (Nat.le_of_ble_eq_true rfl) d_MS_extract_222 ?_
                refine wi_nmM (fun s5 e_s5 => ?_)
                refine wi_goto hC 240 d_MS_extract_225 (by decide) ?_
                refine wi_lv [0, 1, 4, 5, 6, 7] [(5, .long v6), (4, .int v5), (0, .ref 42), (1, .int a1), (2, .int a2), (3, .int a3)] rfl ?_
                exact Jt2 (v6, v5, s5) (by subst e_s5; subst e_v6; subst e_v5; subst e_s4; subst e_t4; subst e_t3; subst e_v4; subst e_v3; subst e_s3; exact (Eq.trans eTt2 (Eq.trans (if_pos h6) (Eq.trans (if_neg h7) (if_neg h8)))))
              refine wi_if_ge hC 193 d_MS_extract_183 (by decide) (fun h10 => ?_) (fun h10 => ?_)
              · skip
                refine wi_iload hC 1 d_MS_extract_193 rfl ?_
                refine wi_i2l hC d_MS_extract_195 ?_
                exact Jt4 (Int32.toInt64 v3) (by exact (Eq.trans eTt4 (if_pos h10)))
              · skip
                refine wi_iload hC 1 d_MS_extract_186 rfl ?_
                refine wi_ineg hC d_MS_extract_188 ?_
                refine wi_i2l hC d_MS_extract_189 ?_
                refine wi_goto hC 196 d_MS_extract_190 (by decide) ?_
                exact Jt4 (Int32.toInt64 (-v3)) (by exact (Eq.trans eTt4 (if_neg h10)))
            refine wi_if_ge hC 180 d_MS_extract_173 (by decide) (fun h9 => ?_) (fun h9 => ?_)
            · skip
              refine wi_iconst hC 0 (by decide) d_MS_extract_180 ?_
              exact Jt3 false (by exact (Eq.trans eTt3 (if_pos h9)))
            · skip
              refine wi_iconst hC 1 (by decide) d_MS_extract_176 ?_
              refine wi_goto hC 181 d_MS_extract_177 (by decide) ?_
              exact Jt3 true (by exact (Eq.trans eTt3 (if_neg h9)))
          · skip
            refine wi_ldc hC wd_805 d_MS_extract_114 ?_
            refine wi_istore hC [(4, .int 65535), (5, .long 0), (0, .ref 42), (1, .int a1), (2, .int a2), (3, .int a3)] d_MS_extract_116 (by decide) rfl ?_
            refine wi_ldc2 hC wd_831 d_MS_extract_118 ?_
            refine wi_lstore hC [(5, .long (-9223372036854775808)), (4, .int 65535), (0, .ref 42), (1, .int a1), (2, .int a2), (3, .int a3)] d_MS_extract_121 (by decide) rfl ?_
            refine wi_aload_n hC 2 d_MS_extract_123 rfl rfl ?_
            refine wi_iconst hC 4 (by decide) d_MS_extract_124 ?_
            refine k_MS_tell hC (by decide) wd_853 (by decide) (Nat.le_of_ble_eq_true rfl) d_MS_extract_125 ?_
            obtain ⟨r2, e_r2⟩ : ∃ y : Bool × St, f_MS_tell r1.2 4 = y := ⟨_, rfl⟩
            rw [e_r2]
            refine wi_z_eq (b := r2.1) hC 240 d_MS_extract_128 (by decide) (fun h11 => ?_) (fun h11 => ?_)
            · skip
              exact Jt2 ((-9223372036854775808), 65535, r2.2) (by subst e_r2; exact (Eq.trans eTt2 (Eq.trans (if_pos h6) (Eq.trans (if_neg h7) (Eq.trans (if_pos h8) (if_neg h11))))))
            · skip
              refine wi_aload_n hC 2 d_MS_extract_131 rfl rfl ?_
              refine wi_aload_n hC 2 d_MS_extract_132 rfl rfl ?_
              refine wi_iload_n hC 3 d_MS_extract_133 rfl rfl ?_
              refine k_MS_minus hC hp wd_860 (by decide) (Nat.le_of_ble_eq_true rfl) d_MS_extract_134 ?_
              obtain ⟨Tt5, eTt5⟩ : ∃ y : Int32, y = (
                      if f_MS_minus r2.2 a1 = true then
                        32768
                      else
                        0) := ⟨_, rfl⟩
              have Jt5 : ∀ (t5 : Int32), Tt5 = t5 → WS p l e { frames := 3, cells := 0, slots := 0, locals := 81 } s m args below meth c Q E 10 146 [(5, .long (-9223372036854775808)), (4, .int 65535), (0, .ref 42), (1, .int a1), (2, .int a2), (3, .int a3)] [.int t5, .ref 42] (σ, r2.2, q) := by
                intro t5  e_t5
                rw [eTt5] at e_t5
                refine wi_lconst hC 0 (by decide) d_MS_extract_146 ?_
                refine k_MS_answer hC  wd_854 (by decide) (Nat.le_of_ble_eq_true rfl) d_MS_extract_147 ?_
                refine wi_nmM (fun s6 e_s6 => ?_)
                refine wi_goto hC 240 d_MS_extract_150 (by decide) ?_
                exact Jt2 ((-9223372036854775808), 65535, s6) (by subst e_s6; subst e_t5; subst e_r2; exact (Eq.trans eTt2 (Eq.trans (if_pos h6) (Eq.trans (if_neg h7) (Eq.trans (if_pos h8) (if_pos h11))))))
              refine wi_z_eq (b := (f_MS_minus r2.2 a1)) hC 145 d_MS_extract_137 (by decide) (fun h12 => ?_) (fun h12 => ?_)
              · skip
                refine wi_iconst hC 0 (by decide) d_MS_extract_145 ?_
                exact Jt5 0 (by exact (Eq.trans eTt5 (if_neg h12)))
              · skip
                refine wi_ldc hC wd_830 d_MS_extract_140 ?_
                refine wi_goto hC 146 d_MS_extract_142 (by decide) ?_
                exact Jt5 32768 (by exact (Eq.trans eTt5 (if_pos h12)))
        · skip
          refine wi_sipush hC 32767 (by decide) d_MS_extract_77 ?_
          refine wi_istore hC [(4, .int 32767), (5, .long 0), (0, .ref 42), (1, .int a1), (2, .int a2), (3, .int a3)] d_MS_extract_80 (by decide) rfl ?_
          refine wi_ldc2 hC wd_831 d_MS_extract_82 ?_
          refine wi_lstore hC [(5, .long (-9223372036854775808)), (4, .int 32767), (0, .ref 42), (1, .int a1), (2, .int a2), (3, .int a3)] d_MS_extract_85 (by decide) rfl ?_
          refine wi_aload_n hC 2 d_MS_extract_87 rfl rfl ?_
          refine wi_aload_n hC 2 d_MS_extract_88 rfl rfl ?_
          refine wg_MS_top hC wd_815 d_MS_extract_89 ?_
          refine wi_iload_n hC 3 d_MS_extract_92 rfl rfl ?_
          refine wa_ld43 hC hp d_MS_extract_93 ?_
          refine wi_aload_n hC 2 d_MS_extract_94 rfl rfl ?_
          refine wg_MS_fraction hC wd_816 d_MS_extract_95 ?_
          refine wi_iload_n hC 3 d_MS_extract_98 rfl rfl ?_
          refine wa_ld44 hC hp d_MS_extract_99 ?_
          refine k_MS_answer hC  wd_854 (by decide) (Nat.le_of_ble_eq_true rfl) d_MS_extract_100 ?_
          refine wi_nmM (fun s7 e_s7 => ?_)
          refine wi_goto hC 240 d_MS_extract_103 (by decide) ?_
          exact Jt2 ((-9223372036854775808), 32767, s7) (by subst e_s7; exact (Eq.trans eTt2 (Eq.trans (if_pos h6) (if_pos h7))))
    · skip
      refine wi_iconst hC 0 (by decide) d_MS_extract_46 ?_
      have hf : f_MS_extract τ a1 a2 a3 = (0, s1) := by subst e_s1; subst e_t1; exact (if_neg h5)
      exact wi_iret hC hr hk d_MS_extract_47 (congrArg (fun z => some (Value.int z.1)) hf) (congrArg (fun z => (σ, z.2, q)) hf).symm hQ
  refine wi_z_ne (b := (f_MS_none a1)) hC 22 d_MS_extract_5 (by decide) (fun h1 => ?_) (fun h1 => ?_)
  · skip
    refine wi_iconst hC 1 (by decide) d_MS_extract_22 ?_
    refine wi_goto hC 36 d_MS_extract_23 (by decide) ?_
    exact Jt1 1 (by exact (Eq.trans eTt1 (if_pos h1)))
  · skip
    refine wi_iload_n hC 2 d_MS_extract_8 rfl rfl ?_
    refine k_MS_none hC  wd_814 (by decide) (Nat.le_of_ble_eq_true rfl) d_MS_extract_9 ?_
    refine wi_z_ne (b := (f_MS_none a2)) hC 22 d_MS_extract_12 (by decide) (fun h2 => ?_) (fun h2 => ?_)
    · skip
      refine wi_iconst hC 1 (by decide) d_MS_extract_22 ?_
      refine wi_goto hC 36 d_MS_extract_23 (by decide) ?_
      exact Jt1 1 (by exact (Eq.trans eTt1 (Eq.trans (if_neg h1) (if_pos h2))))
    · skip
      refine wi_iload_n hC 3 d_MS_extract_15 rfl rfl ?_
      refine k_MS_none hC  wd_814 (by decide) (Nat.le_of_ble_eq_true rfl) d_MS_extract_16 ?_
      refine wi_z_eq (b := (f_MS_none a3)) hC 26 d_MS_extract_19 (by decide) (fun h3 => ?_) (fun h3 => ?_)
      · skip
        refine wi_iload_n hC 2 d_MS_extract_26 rfl rfl ?_
        refine wi_iload_n hC 3 d_MS_extract_27 rfl rfl ?_
        refine wi_icmp_ne hC 35 d_MS_extract_28 (by decide) (fun h4 => ?_) (fun h4 => ?_)
        · skip
          refine wi_iconst hC 0 (by decide) d_MS_extract_35 ?_
          exact Jt1 0 (by exact (Eq.trans eTt1 (Eq.trans (if_neg h1) (Eq.trans (if_neg h2) (Eq.trans (if_neg h3) (if_neg h4))))))
        · skip
          refine wi_iconst hC 2 (by decide) d_MS_extract_31 ?_
          refine wi_goto hC 36 d_MS_extract_32 (by decide) ?_
          exact Jt1 2 (by exact (Eq.trans eTt1 (Eq.trans (if_neg h1) (Eq.trans (if_neg h2) (Eq.trans (if_neg h3) (if_pos h4))))))
      · skip
        refine wi_iconst hC 1 (by decide) d_MS_extract_22 ?_
        refine wi_goto hC 36 d_MS_extract_23 (by decide) ?_
        exact Jt1 1 (by exact (Eq.trans eTt1 (Eq.trans (if_neg h1) (Eq.trans (if_neg h2) (if_pos h3)))))
theorem k_MS_extract {p : Program} {l : Launch} {e : Env} {R : Room} {s : State} {m : MethodId} {args : Array Value} {below : List Frame} {meth : Method} {c : Code} {Q : State → Prop} {E : Ev} {nL pc index : Nat} {lv : List (Nat × Value)} {rest : List Value} {cc : ByteArray} {own : String} {σ τ : St} {q : Int64} {a1 : Int32} {a2 : Int32} {a3 : Int32} (hC : Cx p s m args c cc nL own E)  (hp : vp_in a1 8) (hq : vp_in a2 8) (hs : vp_in a3 8) (hl : Cond.methodLink own index y_MS_extract ∈ WL) (hR : 3 + 1 ≤ R.frames ∧ 8 + (10 + 11) + 81 ≤ R.locals) (hs8 : (rest.map fun v => v.category).sum ≤ 8) (d : decode cc pc = .ok (.invokevirtual index, 3)) (k : WS p l e R s m args below meth c Q E nL (pc + 3) lv ((.int ((f_MS_extract τ a1 a2 a3).1)) :: rest) (σ, (f_MS_extract τ a1 a2 a3).2, q)) : WS p l e R s m args below meth c Q E nL pc lv (.int a3 :: .int a2 :: .int a1 :: .ref 42 :: rest) (σ, τ, q) := by
  exact wi_callV hC (n := 3) (vs := [.int a1, .int a2, .int a3]) (rest := rest) 42 12 (by decide) rfl rfl rfl (c_MS_extract l E σ τ q a1 a2 a3 hp hq hs) (by decide +kernel) wd_927 wd_809 wd_928 wd_929 ⟨rfl, rfl⟩ rfl rfl hl hR hs8 d k
set_option maxRecDepth 100000 in
set_option maxHeartbeats 4000000 in
theorem c_MS_divide (l : Launch) (E : Ev) (σ τ : St) (q : Int64) (a1 : Int32) (a2 : Int32) (hp : vp_in a1 8) (hq : vp_in a2 8) : MF l y_MS_divide prog_15_method_28_code 12 none { frames := 3, cells := 0, slots := 0, locals := 81 } E [.ref 42, .int a1, .int a2] (σ, τ, q) none (σ, (f_MS_divide τ a1 a2), q) := by
  refine MF_intro (lv0 := [(0, .ref 42), (1, .int a1), (2, .int a2)]) (by decide) wd_930 (Nat.le_of_ble_eq_true rfl) rfl ?_
  intro p e s m args below meth c Q hC hr hk hQ
  replace hC : Cx p s m args c prog_15_method_28_code 12 "PartnerStackModel$RealStepsModel" E := hC
  refine wi_aload_n hC 0 d_MS_divide_0 rfl rfl ?_
  refine wi_iconst hC 0 (by decide) d_MS_divide_1 ?_
  refine wp_MS_quotient hC wd_893 d_MS_divide_2 ?_
  refine wi_nmM (fun s1 e_s1 => ?_)
  refine wi_aload_n hC 0 d_MS_divide_5 rfl rfl ?_
  refine wi_iconst hC 0 (by decide) d_MS_divide_6 ?_
  refine wp_MS_partial hC false rfl wd_892 d_MS_divide_7 ?_
  refine wi_nmM (fun s2 e_s2 => ?_)
  refine wi_iconst hC (-1) (by decide) d_MS_divide_10 ?_
  refine wi_istore_n hC [(3, .int (-1)), (0, .ref 42), (1, .int a1), (2, .int a2)] d_MS_divide_11 rfl (by decide) rfl ?_
  refine wi_lconst hC 0 (by decide) d_MS_divide_12 ?_
  refine wi_lstore hC [(4, .long 0), (3, .int (-1)), (0, .ref 42), (1, .int a1), (2, .int a2)] d_MS_divide_13 (by decide) rfl ?_
  refine wi_aload_n hC 2 d_MS_divide_15 rfl rfl ?_
  refine wi_iload_n hC 4 d_MS_divide_16 rfl rfl ?_
  refine k_MS_kind hC hq wd_852 (by decide) (Nat.le_of_ble_eq_true rfl) d_MS_divide_17 ?_
  refine wi_iconst hC 4 (by decide) d_MS_divide_20 ?_
  obtain ⟨Tt1, eTt1⟩ : ∃ y : Int64 × Int32 × St, y = (
          if f_MS_kind s2 a2 = 4 then
            (0, (-1), s2)
          else
            if f_MS_nothing s2 a1 = true then
              (0, (-1), s2)
            else
              let s3 : St := f_MS_apart s2 a1
              let v1 : Int64 := gJ s3 34 42
              let v2 : Int32 := gI s3 35 42
              let s4 : St := f_MS_apart s3 a2
              let v3 : Int32 := v2 - (gI s4 35 42)
              (v1, v3, s4)) := ⟨_, rfl⟩
  have Jt1 : ∀ (t1 : Int64 × Int32 × St), Tt1 = t1 → WS p l e { frames := 3, cells := 0, slots := 0, locals := 81 } s m args below meth c Q E 12 60 [(4, .long t1.1), (3, .int t1.2.1), (0, .ref 42), (1, .int a1), (2, .int a2)] [] (σ, t1.2.2, q) := by
    intro t1  e_t1
    rw [eTt1] at e_t1
    refine wi_iload_n hC 1 d_MS_divide_60 rfl rfl ?_
    refine wi_if_ge hC 85 d_MS_divide_61 (by decide) (fun h3 => ?_) (fun h3 => ?_)
    · skip
      refine wi_aload_n hC 2 d_MS_divide_85 rfl rfl ?_
      refine wi_iload_n hC 1 d_MS_divide_86 rfl rfl ?_
      refine wi_bipush hC 63 (by decide) d_MS_divide_87 ?_
      obtain ⟨Tt2, eTt2⟩ : ∃ y : Bool, y = (
              if t1.2.1 ≤ 63 then
                false
              else
                true) := ⟨_, rfl⟩
      have Jt2 : ∀ (t2 : Bool), Tt2 = t2 → WS p l e { frames := 3, cells := 0, slots := 0, locals := 81 } s m args below meth c Q E 12 97 [(4, .long t1.1), (3, .int t1.2.1), (0, .ref 42), (1, .int a1), (2, .int a2)] [.int (bI t2), .ref 42] (σ, t1.2.2, q) := by
        intro t2  e_t2
        rw [eTt2] at e_t2
        refine wp_MS_partial hC t2 rfl wd_892 d_MS_divide_97 ?_
        refine wi_nmM (fun s5 e_s5 => ?_)
        refine wi_aload_n hC 2 d_MS_divide_100 rfl rfl ?_
        refine wg_MS_partial hC wd_892 d_MS_divide_101 ?_
        obtain ⟨Tt3, eTt3⟩ : ∃ y : Int32, y = (
                if gZ s5 31 42 = true then
                  63
                else
                  t1.2.1) := ⟨_, rfl⟩
        have Jt3 : ∀ (t3 : Int32), Tt3 = t3 → WS p l e { frames := 3, cells := 0, slots := 0, locals := 81 } s m args below meth c Q E 12 113 [(4, .long t1.1), (3, .int t1.2.1), (0, .ref 42), (1, .int a1), (2, .int a2)] [.int t3] (σ, s5, q) := by
          intro t3  e_t3
          rw [eTt3] at e_t3
          refine wi_istore hC [(6, .int t3), (4, .long t1.1), (3, .int t1.2.1), (0, .ref 42), (1, .int a1), (2, .int a2)] d_MS_divide_113 (by decide) rfl ?_
          refine wi_lconst hC 0 (by decide) d_MS_divide_115 ?_
          refine wi_lstore hC [(7, .long 0), (6, .int t3), (4, .long t1.1), (3, .int t1.2.1), (0, .ref 42), (1, .int a1), (2, .int a2)] d_MS_divide_116 (by decide) rfl ?_
          refine wi_iconst hC 0 (by decide) d_MS_divide_118 ?_
          refine wi_istore hC [(9, .int 0), (7, .long 0), (6, .int t3), (4, .long t1.1), (3, .int t1.2.1), (0, .ref 42), (1, .int a1), (2, .int a2)] d_MS_divide_119 (by decide) rfl ?_
          refine wi_loop ((b_MS_divide_121 t1 t3)) (fun t5 => 0 ≤ (t5.1).toInt) (fun t5 => [(9, .int t5.1), (7, .long t5.2.1), (6, .int t3), (4, .long t1.1), (3, .int t1.2.1), (0, .ref 42), (1, .int a1), (2, .int a2)]) (fun t5 => (σ, t5.2.2, q)) 249 ?_ (up_inv (b := (b_MS_divide_121 t1 t3)) (fun t => t.1) (64 + t3) 0 (st_b_MS_divide_121 t1 t3)) (upf (64 + t3) 0) (0, 0, s5) (show (0 : Int) ≤ (0 : Int32).toInt by decide) (up_halt (b := (b_MS_divide_121 t1 t3)) (fun t => t.1) (64 + t3) (st_b_MS_divide_121 t1 t3) (0, 0, s5)) ?_
          · intro t5 hi_t5 hc_t5 hx_t5
            refine wi_iload hC 0 d_MS_divide_121 rfl ?_
            refine wi_bipush hC 64 (by decide) d_MS_divide_123 ?_
            refine wi_iload hC 2 d_MS_divide_125 rfl ?_
            refine wi_iadd hC d_MS_divide_127 ?_
            refine wi_icmp_ge hC 249 d_MS_divide_128 (by decide) (fun h6 => ?_) (fun h6 => ?_)
            · skip
              exact hx_t5 (t5.1, t5.2.1, t5.2.2) (by exact (if_pos h6))
            · skip
              refine wi_lload hC 1 d_MS_divide_131 rfl ?_
              refine wi_lconst hC 0 (by decide) d_MS_divide_133 ?_
              obtain ⟨Tt6, eTt6⟩ : ∃ y : Bool, y = (
                      if 0 ≤ t5.2.1 then
                        false
                      else
                        true) := ⟨_, rfl⟩
              have Jt6 : ∀ (t6 : Bool), Tt6 = t6 → WS p l e { frames := 3, cells := 0, slots := 0, locals := 81 } s m args below meth c Q E 12 143 [(9, .int t5.1), (7, .long t5.2.1), (6, .int t3), (4, .long t1.1), (3, .int t1.2.1), (0, .ref 42), (1, .int a1), (2, .int a2)] [.int (bI t6)] (σ, t5.2.2, q) := by
                intro t6  e_t6
                rw [eTt6] at e_t6
                refine wi_istore hC [(10, .int (bI t6)), (9, .int t5.1), (7, .long t5.2.1), (6, .int t3), (4, .long t1.1), (3, .int t1.2.1), (0, .ref 42), (1, .int a1), (2, .int a2)] d_MS_divide_143 (by decide) rfl ?_
                refine wi_ldc2 hC wd_870 d_MS_divide_145 ?_
                refine wi_lload hC 2 d_MS_divide_148 rfl ?_
                refine wi_lmul hC d_MS_divide_150 ?_
                refine wi_iload hC 1 d_MS_divide_151 rfl ?_
                refine wi_bipush hC 64 (by decide) d_MS_divide_153 ?_
                obtain ⟨Tt7, eTt7⟩ : ∃ y : Int64, y = (
                        if 64 ≤ t5.1 then
                          0
                        else
                          if 0 ≤ (jlshl t1.1 t5.1) then
                            0
                          else
                            1) := ⟨_, rfl⟩
                have Jt7 : ∀ (t7 : Int64), Tt7 = t7 → WS p l e { frames := 3, cells := 0, slots := 0, locals := 81 } s m args below meth c Q E 12 173 [(10, .int (bI t6)), (9, .int t5.1), (7, .long t5.2.1), (6, .int t3), (4, .long t1.1), (3, .int t1.2.1), (0, .ref 42), (1, .int a1), (2, .int a2)] [.long t7, .long (2 * t5.2.1)] (σ, t5.2.2, q) := by
                  intro t7  e_t7
                  rw [eTt7] at e_t7
                  refine wi_ladd hC d_MS_divide_173 ?_
                  refine wi_nmJ (fun v4 e_v4 => ?_)
                  refine wi_lstore hC [(7, .long v4), (10, .int (bI t6)), (9, .int t5.1), (6, .int t3), (4, .long t1.1), (3, .int t1.2.1), (0, .ref 42), (1, .int a1), (2, .int a2)] d_MS_divide_174 (by decide) rfl ?_
                  refine wi_iload hC 1 d_MS_divide_176 rfl ?_
                  obtain ⟨Tt8, eTt8⟩ : ∃ y : Bool, y = (
                          if t6 = true then
                            true
                          else
                            if f_MS_lessSize v4 (gJ t5.2.2 34 42) = true then
                              false
                            else
                              true) := ⟨_, rfl⟩
                  have Jt8 : ∀ (t8 : Bool), Tt8 = t8 → WS p l e { frames := 3, cells := 0, slots := 0, locals := 81 } s m args below meth c Q E 12 198 [(7, .long v4), (10, .int (bI t6)), (9, .int t5.1), (6, .int t3), (4, .long t1.1), (3, .int t1.2.1), (0, .ref 42), (1, .int a1), (2, .int a2)] [.int (bI t8)] (σ, t5.2.2, q) := by
                    intro t8  e_t8
                    rw [eTt8] at e_t8
                    refine wi_istore hC [(11, .int (bI t8)), (7, .long v4), (10, .int (bI t6)), (9, .int t5.1), (6, .int t3), (4, .long t1.1), (3, .int t1.2.1), (0, .ref 42), (1, .int a1), (2, .int a2)] d_MS_divide_198 (by decide) rfl ?_
                    refine wi_iload hC 0 d_MS_divide_200 rfl ?_
                    obtain ⟨Tt9, eTt9⟩ : ∃ y : Int64, y = (
                            if t8 = true then
                              v4 - (gJ t5.2.2 34 42)
                            else
                              v4) := ⟨_, rfl⟩
                    have Jt9 : ∀ (t9 : Int64), Tt9 = t9 → WS p l e { frames := 3, cells := 0, slots := 0, locals := 81 } s m args below meth c Q E 12 217 [(11, .int (bI t8)), (7, .long v4), (10, .int (bI t6)), (9, .int t5.1), (6, .int t3), (4, .long t1.1), (3, .int t1.2.1), (0, .ref 42), (1, .int a1), (2, .int a2)] [.long t9] (σ, t5.2.2, q) := by
                      intro t9  e_t9
                      rw [eTt9] at e_t9
                      refine wi_lstore hC [(7, .long t9), (11, .int (bI t8)), (10, .int (bI t6)), (9, .int t5.1), (6, .int t3), (4, .long t1.1), (3, .int t1.2.1), (0, .ref 42), (1, .int a1), (2, .int a2)] d_MS_divide_217 (by decide) rfl ?_
                      refine wi_aload_n hC 7 d_MS_divide_219 rfl rfl ?_
                      refine wi_iconst hC 2 (by decide) d_MS_divide_220 ?_
                      refine wi_aload_n hC 7 d_MS_divide_221 rfl rfl ?_
                      refine wg_MS_quotient hC wd_893 d_MS_divide_222 ?_
                      refine wi_imul hC d_MS_divide_225 ?_
                      refine wi_iload hC 1 d_MS_divide_226 rfl ?_
                      obtain ⟨Tt10, eTt10⟩ : ∃ y : Bool, y = (
                              if t8 = true then
                                true
                              else
                                false) := ⟨_, rfl⟩
                      have Jt10 : ∀ (t10 : Bool), Tt10 = t10 → WS p l e { frames := 3, cells := 0, slots := 0, locals := 81 } s m args below meth c Q E 12 236 [(7, .long t9), (11, .int (bI t8)), (10, .int (bI t6)), (9, .int t5.1), (6, .int t3), (4, .long t1.1), (3, .int t1.2.1), (0, .ref 42), (1, .int a1), (2, .int a2)] [.int (bI t10), .int (2 * (gI t5.2.2 30 42)), .ref 42] (σ, t5.2.2, q) := by
                        intro t10  e_t10
                        rw [eTt10] at e_t10
                        refine wi_iadd hC d_MS_divide_236 ?_
                        refine wi_bipush hC 8 (by decide) d_MS_divide_237 ?_
                        refine wi_irem hC (by decide) d_MS_divide_239 ?_
                        refine wp_MS_quotient hC wd_893 d_MS_divide_240 ?_
                        refine wi_nmM (fun s6 e_s6 => ?_)
                        obtain ⟨v5, e_v5⟩ : ∃ y : Int32, t5.1 + 1 = y := ⟨_, rfl⟩
                        refine wi_iinc hC 3 v5 [(9, .int v5), (7, .long t9), (11, .int (bI t8)), (10, .int (bI t6)), (6, .int t3), (4, .long t1.1), (3, .int t1.2.1), (0, .ref 42), (1, .int a1), (2, .int a2)] d_MS_divide_243 rfl (by rw [← e_v5]; rfl) (by decide) rfl ?_
                        refine wi_goto hC 121 d_MS_divide_246 (by decide) ?_
                        refine wi_lv [0, 1, 4, 5, 6, 7, 8, 9] [(9, .int v5), (7, .long t9), (6, .int t3), (4, .long t1.1), (3, .int t1.2.1), (0, .ref 42), (1, .int a1), (2, .int a2)] rfl ?_
                        exact hc_t5 (v5, t9, s6) (by subst e_v5; subst e_s6; subst e_t10; subst e_t9; subst e_t8; subst e_v4; subst e_t7; subst e_t6; exact (if_neg h6))
                      refine wi_z_eq (b := t8) hC 235 d_MS_divide_228 (by decide) (fun h13 => ?_) (fun h13 => ?_)
                      · skip
                        refine wi_iconst hC 0 (by decide) d_MS_divide_235 ?_
                        exact Jt10 false (by exact (Eq.trans eTt10 (if_neg h13)))
                      · skip
                        refine wi_iconst hC 1 (by decide) d_MS_divide_231 ?_
                        refine wi_goto hC 236 d_MS_divide_232 (by decide) ?_
                        exact Jt10 true (by exact (Eq.trans eTt10 (if_pos h13)))
                    refine wi_z_eq (b := t8) hC 215 d_MS_divide_202 (by decide) (fun h12 => ?_) (fun h12 => ?_)
                    · skip
                      refine wi_lload hC 1 d_MS_divide_215 rfl ?_
                      exact Jt9 v4 (by exact (Eq.trans eTt9 (if_neg h12)))
                    · skip
                      refine wi_lload hC 1 d_MS_divide_205 rfl ?_
                      refine wi_aload_n hC 7 d_MS_divide_207 rfl rfl ?_
                      refine wg_MS_digits hC wd_867 d_MS_divide_208 ?_
                      refine wi_lsub hC d_MS_divide_211 ?_
                      refine wi_goto hC 217 d_MS_divide_212 (by decide) ?_
                      exact Jt9 (v4 - (gJ t5.2.2 34 42)) (by exact (Eq.trans eTt9 (if_pos h12)))
                  refine wi_z_ne (b := t6) hC 193 d_MS_divide_178 (by decide) (fun h10 => ?_) (fun h10 => ?_)
                  · skip
                    refine wi_iconst hC 1 (by decide) d_MS_divide_193 ?_
                    refine wi_goto hC 198 d_MS_divide_194 (by decide) ?_
                    exact Jt8 true (by exact (Eq.trans eTt8 (if_pos h10)))
                  · skip
                    refine wi_lload hC 0 d_MS_divide_181 rfl ?_
                    refine wi_aload_n hC 6 d_MS_divide_183 rfl rfl ?_
                    refine wg_MS_digits hC wd_867 d_MS_divide_184 ?_
                    refine k_MS_lessSize hC  wd_859 (by decide) (Nat.le_of_ble_eq_true rfl) d_MS_divide_187 ?_
                    refine wi_z_ne (b := (f_MS_lessSize v4 (gJ t5.2.2 34 42))) hC 197 d_MS_divide_190 (by decide) (fun h11 => ?_) (fun h11 => ?_)
                    · skip
                      refine wi_iconst hC 0 (by decide) d_MS_divide_197 ?_
                      exact Jt8 false (by exact (Eq.trans eTt8 (Eq.trans (if_neg h10) (if_pos h11))))
                    · skip
                      refine wi_iconst hC 1 (by decide) d_MS_divide_193 ?_
                      refine wi_goto hC 198 d_MS_divide_194 (by decide) ?_
                      exact Jt8 true (by exact (Eq.trans eTt8 (Eq.trans (if_neg h10) (if_neg h11))))
                refine wi_icmp_ge hC 172 d_MS_divide_155 (by decide) (fun h8 => ?_) (fun h8 => ?_)
                · skip
                  refine wi_lconst hC 0 (by decide) d_MS_divide_172 ?_
                  exact Jt7 0 (by exact (Eq.trans eTt7 (if_pos h8)))
                · skip
                  refine wi_lload hC 4 d_MS_divide_158 rfl ?_
                  refine wi_iload hC 1 d_MS_divide_160 rfl ?_
                  refine wi_lshl hC d_MS_divide_162 ?_
                  refine wi_lconst hC 0 (by decide) d_MS_divide_163 ?_
                  refine wi_lcmp_ge hC 172 d_MS_divide_164 d_MS_divide_165 (by decide) (fun h9 => ?_) (fun h9 => ?_)
                  · skip
                    refine wi_lconst hC 0 (by decide) d_MS_divide_172 ?_
                    exact Jt7 0 (by exact (Eq.trans eTt7 (Eq.trans (if_neg h8) (if_pos h9))))
                  · skip
                    refine wi_lconst hC 1 (by decide) d_MS_divide_168 ?_
                    refine wi_goto hC 173 d_MS_divide_169 (by decide) ?_
                    exact Jt7 1 (by exact (Eq.trans eTt7 (Eq.trans (if_neg h8) (if_neg h9))))
              refine wi_lcmp_ge hC 142 d_MS_divide_134 d_MS_divide_135 (by decide) (fun h7 => ?_) (fun h7 => ?_)
              · skip
                refine wi_iconst hC 0 (by decide) d_MS_divide_142 ?_
                exact Jt6 false (by exact (Eq.trans eTt6 (if_pos h7)))
              · skip
                refine wi_iconst hC 1 (by decide) d_MS_divide_138 ?_
                refine wi_goto hC 143 d_MS_divide_139 (by decide) ?_
                exact Jt6 true (by exact (Eq.trans eTt6 (if_neg h7)))
          obtain ⟨t4, e_t4⟩ : ∃ y : Int32 × Int64 × St, lpn ((b_MS_divide_121 t1 t3)) (upf (64 + t3) 0) (0, 0, s5) = y := ⟨_, rfl⟩
          rw [e_t4]
          refine wi_aload_n hC 5 d_MS_divide_249 rfl rfl ?_
          refine wi_aload_n hC 5 d_MS_divide_250 rfl rfl ?_
          refine wi_iload_n hC 6 d_MS_divide_251 rfl rfl ?_
          refine k_MS_minus hC hp wd_860 (by decide) (Nat.le_of_ble_eq_true rfl) d_MS_divide_252 ?_
          refine wi_lload hC 1 d_MS_divide_255 rfl ?_
          refine wi_aload_n hC 5 d_MS_divide_257 rfl rfl ?_
          refine wg_MS_first hC wd_869 d_MS_divide_258 ?_
          refine wi_iload_n hC 4 d_MS_divide_261 rfl rfl ?_
          refine wi_iadd hC d_MS_divide_262 ?_
          refine wi_iload hC 2 d_MS_divide_263 rfl ?_
          refine wi_isub hC d_MS_divide_265 ?_
          refine wi_bipush hC 63 (by decide) d_MS_divide_266 ?_
          refine wi_isub hC d_MS_divide_268 ?_
          refine k_MS_make hC (f_MS_minus t4.2.2 a1) rfl wd_925 (by decide) (Nat.le_of_ble_eq_true rfl) d_MS_divide_269 ?_
          refine wi_nmM (fun s7 e_s7 => ?_)
          have hf : f_MS_divide τ a1 a2 = s7 := by subst e_s7; subst e_t4; subst e_t3; subst e_s5; subst e_t2; subst e_t1; subst e_s2; subst e_s1; exact (if_pos h3)
          exact wi_vret hC hr hk d_MS_divide_272 rfl (congrArg (fun z => (σ, z, q)) hf).symm hQ
        refine wi_z_eq (b := (gZ s5 31 42)) hC 112 d_MS_divide_104 (by decide) (fun h5 => ?_) (fun h5 => ?_)
        · skip
          refine wi_iload_n hC 1 d_MS_divide_112 rfl rfl ?_
          exact Jt3 t1.2.1 (by exact (Eq.trans eTt3 (if_neg h5)))
        · skip
          refine wi_bipush hC 63 (by decide) d_MS_divide_107 ?_
          refine wi_goto hC 113 d_MS_divide_109 (by decide) ?_
          exact Jt3 63 (by exact (Eq.trans eTt3 (if_pos h5)))
      refine wi_icmp_le hC 96 d_MS_divide_89 (by decide) (fun h4 => ?_) (fun h4 => ?_)
      · skip
        refine wi_iconst hC 0 (by decide) d_MS_divide_96 ?_
        exact Jt2 false (by exact (Eq.trans eTt2 (if_pos h4)))
      · skip
        refine wi_iconst hC 1 (by decide) d_MS_divide_92 ?_
        refine wi_goto hC 97 d_MS_divide_93 (by decide) ?_
        exact Jt2 true (by exact (Eq.trans eTt2 (if_neg h4)))
    · skip
      refine wi_aload_n hC 2 d_MS_divide_64 rfl rfl ?_
      refine wi_aload_n hC 2 d_MS_divide_65 rfl rfl ?_
      refine wi_iload_n hC 3 d_MS_divide_66 rfl rfl ?_
      refine k_MS_minus hC hp wd_860 (by decide) (Nat.le_of_ble_eq_true rfl) d_MS_divide_67 ?_
      refine wi_aload_n hC 2 d_MS_divide_70 rfl rfl ?_
      refine wg_MS_fraction hC wd_816 d_MS_divide_71 ?_
      refine wi_iload_n hC 3 d_MS_divide_74 rfl rfl ?_
      refine wa_ld44 hC hp d_MS_divide_75 ?_
      refine wi_aload_n hC 2 d_MS_divide_76 rfl rfl ?_
      refine wi_iload_n hC 3 d_MS_divide_77 rfl rfl ?_
      refine k_MS_unit hC hp wd_868 (by decide) (Nat.le_of_ble_eq_true rfl) d_MS_divide_78 ?_
      refine k_MS_make hC (f_MS_minus t1.2.2 a1) rfl wd_925 (by decide) (Nat.le_of_ble_eq_true rfl) d_MS_divide_81 ?_
      refine wi_nmM (fun s8 e_s8 => ?_)
      have hf : f_MS_divide τ a1 a2 = s8 := by subst e_s8; subst e_t1; subst e_s2; subst e_s1; exact (if_neg h3)
      exact wi_vret hC hr hk d_MS_divide_84 rfl (congrArg (fun z => (σ, z, q)) hf).symm hQ
  refine wi_icmp_eq hC 60 d_MS_divide_21 (by decide) (fun h1 => ?_) (fun h1 => ?_)
  · skip
    exact Jt1 (0, (-1), s2) (by exact (Eq.trans eTt1 (if_pos h1)))
  · skip
    refine wi_aload_n hC 2 d_MS_divide_24 rfl rfl ?_
    refine wi_iload_n hC 3 d_MS_divide_25 rfl rfl ?_
    refine k_MS_nothing hC hp wd_874 (by decide) (Nat.le_of_ble_eq_true rfl) d_MS_divide_26 ?_
    refine wi_z_ne (b := (f_MS_nothing s2 a1)) hC 60 d_MS_divide_29 (by decide) (fun h2 => ?_) (fun h2 => ?_)
    · skip
      exact Jt1 (0, (-1), s2) (by exact (Eq.trans eTt1 (Eq.trans (if_neg h1) (if_pos h2))))
    · skip
      refine wi_aload_n hC 2 d_MS_divide_32 rfl rfl ?_
      refine wi_iload_n hC 3 d_MS_divide_33 rfl rfl ?_
      refine k_MS_apart hC hp wd_878 (by decide) (Nat.le_of_ble_eq_true rfl) d_MS_divide_34 ?_
      refine wi_nmM (fun s3 e_s3 => ?_)
      refine wi_aload_n hC 2 d_MS_divide_37 rfl rfl ?_
      refine wg_MS_digits hC wd_867 d_MS_divide_38 ?_
      refine wi_nmJ (fun v1 e_v1 => ?_)
      refine wi_lstore hC [(4, .long v1), (3, .int (-1)), (0, .ref 42), (1, .int a1), (2, .int a2)] d_MS_divide_41 (by decide) rfl ?_
      refine wi_aload_n hC 2 d_MS_divide_43 rfl rfl ?_
      refine wg_MS_first hC wd_869 d_MS_divide_44 ?_
      refine wi_nmI (fun v2 e_v2 => ?_)
      refine wi_istore_n hC [(3, .int v2), (4, .long v1), (0, .ref 42), (1, .int a1), (2, .int a2)] d_MS_divide_47 rfl (by decide) rfl ?_
      refine wi_aload_n hC 2 d_MS_divide_48 rfl rfl ?_
      refine wi_iload_n hC 4 d_MS_divide_49 rfl rfl ?_
      refine k_MS_apart hC hq wd_878 (by decide) (Nat.le_of_ble_eq_true rfl) d_MS_divide_50 ?_
      refine wi_nmM (fun s4 e_s4 => ?_)
      refine wi_iload_n hC 0 d_MS_divide_53 rfl rfl ?_
      refine wi_aload_n hC 2 d_MS_divide_54 rfl rfl ?_
      refine wg_MS_first hC wd_869 d_MS_divide_55 ?_
      refine wi_isub hC d_MS_divide_58 ?_
      refine wi_nmI (fun v3 e_v3 => ?_)
      refine wi_istore_n hC [(3, .int v3), (4, .long v1), (0, .ref 42), (1, .int a1), (2, .int a2)] d_MS_divide_59 rfl (by decide) rfl ?_
      refine wi_lv [1, 0, 2, 3, 4] [(4, .long v1), (3, .int v3), (0, .ref 42), (1, .int a1), (2, .int a2)] rfl ?_
      exact Jt1 (v1, v3, s4) (by subst e_v3; subst e_s4; subst e_v2; subst e_v1; subst e_s3; exact (Eq.trans eTt1 (Eq.trans (if_neg h1) (if_neg h2))))
theorem k_MS_divide {p : Program} {l : Launch} {e : Env} {R : Room} {s : State} {m : MethodId} {args : Array Value} {below : List Frame} {meth : Method} {c : Code} {Q : State → Prop} {E : Ev} {nL pc index : Nat} {lv : List (Nat × Value)} {rest : List Value} {cc : ByteArray} {own : String} {σ τ : St} {q : Int64} {a1 : Int32} {a2 : Int32} (hC : Cx p s m args c cc nL own E)  (hp : vp_in a1 8) (hq : vp_in a2 8) (hl : Cond.methodLink own index y_MS_divide ∈ WL) (hR : 3 + 1 ≤ R.frames ∧ 8 + (12 + 11) + 81 ≤ R.locals) (hs8 : (rest.map fun v => v.category).sum ≤ 8) (d : decode cc pc = .ok (.invokevirtual index, 3)) (k : WS p l e R s m args below meth c Q E nL (pc + 3) lv rest (σ, (f_MS_divide τ a1 a2), q)) : WS p l e R s m args below meth c Q E nL pc lv (.int a2 :: .int a1 :: .ref 42 :: rest) (σ, τ, q) := by
  exact wi_callV hC (n := 2) (vs := [.int a1, .int a2]) (rest := rest) 42 12 (by decide) rfl rfl rfl (c_MS_divide l E σ τ q a1 a2 hp hq) (by decide +kernel) wd_930 wd_809 wd_931 wd_932 ⟨rfl, rfl⟩ rfl rfl hl hR hs8 d k
set_option maxRecDepth 100000 in
set_option maxHeartbeats 400000 in
theorem c_MS_remainder (l : Launch) (E : Ev) (σ τ : St) (q : Int64) (a1 : Int32) (a2 : Int32) (a3 : Int32) (hp : vp_in a1 8) (hq : vp_in a2 8) (hs : vp_in a3 8) : MF l y_MS_remainder prog_15_method_27_code 4 (some .int) { frames := 4, cells := 0, slots := 0, locals := 112 } E [.ref 42, .int a1, .int a2, .int a3] (σ, τ, q) (some (.int ((f_MS_remainder τ a1 a2 a3).1))) (σ, (f_MS_remainder τ a1 a2 a3).2, q) := by
  refine MF_intro (lv0 := [(0, .ref 42), (1, .int a1), (2, .int a2), (3, .int a3)]) (by decide) wd_934 (Nat.le_of_ble_eq_true rfl) rfl ?_
  intro p e s m args below meth c Q hC hr hk hQ
  replace hC : Cx p s m args c prog_15_method_27_code 4 "PartnerStackModel$RealStepsModel" E := hC
  refine wi_aload_n hC 0 d_MS_remainder_0 rfl rfl ?_
  refine wi_iload_n hC 1 d_MS_remainder_1 rfl rfl ?_
  refine k_MS_none hC  wd_814 (by decide) (Nat.le_of_ble_eq_true rfl) d_MS_remainder_2 ?_
  obtain ⟨Tt1, eTt1⟩ : ∃ y : Bool, y = (
          if f_MS_none a1 = true then
            true
          else
            if f_MS_none a2 = true then
              true
            else
              if f_MS_none a3 = true then
                true
              else
                false) := ⟨_, rfl⟩
  have Jt1 : ∀ (t1 : Bool), Tt1 = t1 → WS p l e { frames := 4, cells := 0, slots := 0, locals := 112 } s m args below meth c Q E 4 27 [(0, .ref 42), (1, .int a1), (2, .int a2), (3, .int a3)] [.int (bI t1), .ref 42] (σ, τ, q) := by
    intro t1  e_t1
    rw [eTt1] at e_t1
    refine wp_MS_code hC wd_806 d_MS_remainder_27 ?_
    refine wi_nmM (fun s1 e_s1 => ?_)
    refine wi_aload_n hC 0 d_MS_remainder_30 rfl rfl ?_
    refine wg_MS_code hC wd_806 d_MS_remainder_31 ?_
    refine wi_if_le hC 39 d_MS_remainder_34 (by decide) (fun h4 => ?_) (fun h4 => ?_)
    · skip
      refine wi_aload_n hC 0 d_MS_remainder_39 rfl rfl ?_
      refine k_MS_begin hC  wd_879 (by decide) (Nat.le_of_ble_eq_true rfl) d_MS_remainder_40 ?_
      refine wi_nmM (fun s2 e_s2 => ?_)
      refine wi_aload_n hC 0 d_MS_remainder_43 rfl rfl ?_
      refine wi_iload_n hC 1 d_MS_remainder_44 rfl rfl ?_
      refine wi_iload_n hC 2 d_MS_remainder_45 rfl rfl ?_
      refine wi_aload_n hC 0 d_MS_remainder_46 rfl rfl ?_
      refine wi_iload_n hC 1 d_MS_remainder_47 rfl rfl ?_
      refine k_MS_kind hC hp wd_852 (by decide) (Nat.le_of_ble_eq_true rfl) d_MS_remainder_48 ?_
      refine wi_iconst hC 4 (by decide) d_MS_remainder_51 ?_
      obtain ⟨Tt2, eTt2⟩ : ∃ y : Bool, y = (
              if f_MS_kind s2 a1 = 4 then
                false
              else
                if f_MS_nothing s2 a2 = true then
                  false
                else
                  if f_MS_kind s2 a2 = 2 then
                    false
                  else
                    true) := ⟨_, rfl⟩
      have Jt2 : ∀ (t2 : Bool), Tt2 = t2 → WS p l e { frames := 4, cells := 0, slots := 0, locals := 112 } s m args below meth c Q E 4 77 [(0, .ref 42), (1, .int a1), (2, .int a2), (3, .int a3)] [.int (bI t2), .int a2, .int a1, .ref 42] (σ, s2, q) := by
        intro t2  e_t2
        rw [eTt2] at e_t2
        refine k_MS_goesOn hC t2 rfl hp hq wd_880 (by decide) (Nat.le_of_ble_eq_true rfl) d_MS_remainder_77 ?_
        obtain ⟨r1, e_r1⟩ : ∃ y : Bool × St, f_MS_goesOn s2 a1 a2 t2 = y := ⟨_, rfl⟩
        rw [e_r1]
        obtain ⟨Tt3, eTt3⟩ : ∃ y : St, y = (
                if r1.1 = true then
                  let s3 : St := f_MS_divide r1.2 a1 a2
                  s3
                else
                  r1.2) := ⟨_, rfl⟩
        have Jt3 : ∀ (t3 : St), Tt3 = t3 → WS p l e { frames := 4, cells := 0, slots := 0, locals := 112 } s m args below meth c Q E 4 89 [(0, .ref 42), (1, .int a1), (2, .int a2), (3, .int a3)] [] (σ, t3, q) := by
          intro t3  e_t3
          rw [eTt3] at e_t3
          refine wi_aload_n hC 0 d_MS_remainder_89 rfl rfl ?_
          refine wi_iload_n hC 3 d_MS_remainder_90 rfl rfl ?_
          refine k_MS_keep hC hs wd_926 (by decide) (Nat.le_of_ble_eq_true rfl) d_MS_remainder_91 ?_
          refine wi_nmM (fun s4 e_s4 => ?_)
          refine wi_aload_n hC 0 d_MS_remainder_94 rfl rfl ?_
          refine wg_MS_told hC wd_825 d_MS_remainder_95 ?_
          have hf : f_MS_remainder τ a1 a2 a3 = (gI s4 28 42, s4) := by subst e_s4; subst e_t3; subst e_r1; subst e_t2; subst e_s2; subst e_s1; subst e_t1; exact (if_pos h4)
          exact wi_iret hC hr hk d_MS_remainder_98 (congrArg (fun z => some (Value.int z.1)) hf) (congrArg (fun z => (σ, z.2, q)) hf).symm hQ
        refine wi_z_eq (b := r1.1) hC 89 d_MS_remainder_80 (by decide) (fun h8 => ?_) (fun h8 => ?_)
        · skip
          exact Jt3 r1.2 (by exact (Eq.trans eTt3 (if_neg h8)))
        · skip
          refine wi_aload_n hC 0 d_MS_remainder_83 rfl rfl ?_
          refine wi_iload_n hC 1 d_MS_remainder_84 rfl rfl ?_
          refine wi_iload_n hC 2 d_MS_remainder_85 rfl rfl ?_
          refine k_MS_divide hC hp hq wd_933 (by decide) (Nat.le_of_ble_eq_true rfl) d_MS_remainder_86 ?_
          refine wi_nmM (fun s3 e_s3 => ?_)
          exact Jt3 s3 (by subst e_s3; exact (Eq.trans eTt3 (if_pos h8)))
      refine wi_icmp_eq hC 76 d_MS_remainder_52 (by decide) (fun h5 => ?_) (fun h5 => ?_)
      · skip
        refine wi_iconst hC 0 (by decide) d_MS_remainder_76 ?_
        exact Jt2 false (by exact (Eq.trans eTt2 (if_pos h5)))
      · skip
        refine wi_aload_n hC 0 d_MS_remainder_55 rfl rfl ?_
        refine wi_iload_n hC 2 d_MS_remainder_56 rfl rfl ?_
        refine k_MS_nothing hC hq wd_874 (by decide) (Nat.le_of_ble_eq_true rfl) d_MS_remainder_57 ?_
        refine wi_z_ne (b := (f_MS_nothing s2 a2)) hC 76 d_MS_remainder_60 (by decide) (fun h6 => ?_) (fun h6 => ?_)
        · skip
          refine wi_iconst hC 0 (by decide) d_MS_remainder_76 ?_
          exact Jt2 false (by exact (Eq.trans eTt2 (Eq.trans (if_neg h5) (if_pos h6))))
        · skip
          refine wi_aload_n hC 0 d_MS_remainder_63 rfl rfl ?_
          refine wi_iload_n hC 2 d_MS_remainder_64 rfl rfl ?_
          refine k_MS_kind hC hq wd_852 (by decide) (Nat.le_of_ble_eq_true rfl) d_MS_remainder_65 ?_
          refine wi_iconst hC 2 (by decide) d_MS_remainder_68 ?_
          refine wi_icmp_eq hC 76 d_MS_remainder_69 (by decide) (fun h7 => ?_) (fun h7 => ?_)
          · skip
            refine wi_iconst hC 0 (by decide) d_MS_remainder_76 ?_
            exact Jt2 false (by exact (Eq.trans eTt2 (Eq.trans (if_neg h5) (Eq.trans (if_neg h6) (if_pos h7)))))
          · skip
            refine wi_iconst hC 1 (by decide) d_MS_remainder_72 ?_
            refine wi_goto hC 77 d_MS_remainder_73 (by decide) ?_
            exact Jt2 true (by exact (Eq.trans eTt2 (Eq.trans (if_neg h5) (Eq.trans (if_neg h6) (if_neg h7)))))
    · skip
      refine wi_iconst hC 0 (by decide) d_MS_remainder_37 ?_
      have hf : f_MS_remainder τ a1 a2 a3 = (0, s1) := by subst e_s1; subst e_t1; exact (if_neg h4)
      exact wi_iret hC hr hk d_MS_remainder_38 (congrArg (fun z => some (Value.int z.1)) hf) (congrArg (fun z => (σ, z.2, q)) hf).symm hQ
  refine wi_z_ne (b := (f_MS_none a1)) hC 22 d_MS_remainder_5 (by decide) (fun h1 => ?_) (fun h1 => ?_)
  · skip
    refine wi_iconst hC 1 (by decide) d_MS_remainder_22 ?_
    refine wi_goto hC 27 d_MS_remainder_23 (by decide) ?_
    exact Jt1 true (by exact (Eq.trans eTt1 (if_pos h1)))
  · skip
    refine wi_iload_n hC 2 d_MS_remainder_8 rfl rfl ?_
    refine k_MS_none hC  wd_814 (by decide) (Nat.le_of_ble_eq_true rfl) d_MS_remainder_9 ?_
    refine wi_z_ne (b := (f_MS_none a2)) hC 22 d_MS_remainder_12 (by decide) (fun h2 => ?_) (fun h2 => ?_)
    · skip
      refine wi_iconst hC 1 (by decide) d_MS_remainder_22 ?_
      refine wi_goto hC 27 d_MS_remainder_23 (by decide) ?_
      exact Jt1 true (by exact (Eq.trans eTt1 (Eq.trans (if_neg h1) (if_pos h2))))
    · skip
      refine wi_iload_n hC 3 d_MS_remainder_15 rfl rfl ?_
      refine k_MS_none hC  wd_814 (by decide) (Nat.le_of_ble_eq_true rfl) d_MS_remainder_16 ?_
      refine wi_z_eq (b := (f_MS_none a3)) hC 26 d_MS_remainder_19 (by decide) (fun h3 => ?_) (fun h3 => ?_)
      · skip
        refine wi_iconst hC 0 (by decide) d_MS_remainder_26 ?_
        exact Jt1 false (by exact (Eq.trans eTt1 (Eq.trans (if_neg h1) (Eq.trans (if_neg h2) (if_neg h3)))))
      · skip
        refine wi_iconst hC 1 (by decide) d_MS_remainder_22 ?_
        refine wi_goto hC 27 d_MS_remainder_23 (by decide) ?_
        exact Jt1 true (by exact (Eq.trans eTt1 (Eq.trans (if_neg h1) (Eq.trans (if_neg h2) (if_pos h3)))))
theorem k_MS_remainder {p : Program} {l : Launch} {e : Env} {R : Room} {s : State} {m : MethodId} {args : Array Value} {below : List Frame} {meth : Method} {c : Code} {Q : State → Prop} {E : Ev} {nL pc index : Nat} {lv : List (Nat × Value)} {rest : List Value} {cc : ByteArray} {own : String} {σ τ : St} {q : Int64} {a1 : Int32} {a2 : Int32} {a3 : Int32} (hC : Cx p s m args c cc nL own E)  (hp : vp_in a1 8) (hq : vp_in a2 8) (hs : vp_in a3 8) (hl : Cond.methodLink own index y_MS_remainder ∈ WL) (hR : 4 + 1 ≤ R.frames ∧ 8 + (4 + 11) + 112 ≤ R.locals) (hs8 : (rest.map fun v => v.category).sum ≤ 8) (d : decode cc pc = .ok (.invokevirtual index, 3)) (k : WS p l e R s m args below meth c Q E nL (pc + 3) lv ((.int ((f_MS_remainder τ a1 a2 a3).1)) :: rest) (σ, (f_MS_remainder τ a1 a2 a3).2, q)) : WS p l e R s m args below meth c Q E nL pc lv (.int a3 :: .int a2 :: .int a1 :: .ref 42 :: rest) (σ, τ, q) := by
  exact wi_callV hC (n := 3) (vs := [.int a1, .int a2, .int a3]) (rest := rest) 42 12 (by decide) rfl rfl rfl (c_MS_remainder l E σ τ q a1 a2 a3 hp hq hs) (by decide +kernel) wd_934 wd_809 wd_935 wd_936 ⟨rfl, rfl⟩ rfl rfl hl hR hs8 d k
set_option maxRecDepth 100000 in
set_option maxHeartbeats 400000 in
theorem c_MS_whole (l : Launch) (E : Ev) (σ τ : St) (q : Int64) (a1 : Int32) (a2 : Int32) (hp : vp_in a1 8) (hq : vp_in a2 8) : MF l y_MS_whole prog_15_method_24_code 5 (some .int) { frames := 3, cells := 0, slots := 0, locals := 81 } E [.ref 42, .int a1, .int a2] (σ, τ, q) (some (.int ((f_MS_whole τ a1 a2).1))) (σ, (f_MS_whole τ a1 a2).2, q) := by
  refine MF_intro (lv0 := [(0, .ref 42), (1, .int a1), (2, .int a2)]) (by decide) wd_937 (Nat.le_of_ble_eq_true rfl) rfl ?_
  intro p e s m args below meth c Q hC hr hk hQ
  replace hC : Cx p s m args c prog_15_method_24_code 5 "PartnerStackModel$RealStepsModel" E := hC
  refine wi_aload_n hC 0 d_MS_whole_0 rfl rfl ?_
  refine wi_iload_n hC 1 d_MS_whole_1 rfl rfl ?_
  refine k_MS_none hC  wd_814 (by decide) (Nat.le_of_ble_eq_true rfl) d_MS_whole_2 ?_
  obtain ⟨Tt1, eTt1⟩ : ∃ y : Bool, y = (
          if f_MS_none a1 = true then
            true
          else
            if f_MS_none a2 = true then
              true
            else
              false) := ⟨_, rfl⟩
  have Jt1 : ∀ (t1 : Bool), Tt1 = t1 → WS p l e { frames := 3, cells := 0, slots := 0, locals := 81 } s m args below meth c Q E 5 20 [(0, .ref 42), (1, .int a1), (2, .int a2)] [.int (bI t1), .ref 42] (σ, τ, q) := by
    intro t1  e_t1
    rw [eTt1] at e_t1
    refine wp_MS_code hC wd_806 d_MS_whole_20 ?_
    refine wi_nmM (fun s1 e_s1 => ?_)
    refine wi_aload_n hC 0 d_MS_whole_23 rfl rfl ?_
    refine wg_MS_code hC wd_806 d_MS_whole_24 ?_
    refine wi_if_le hC 32 d_MS_whole_27 (by decide) (fun h3 => ?_) (fun h3 => ?_)
    · skip
      refine wi_aload_n hC 0 d_MS_whole_32 rfl rfl ?_
      refine k_MS_begin hC  wd_879 (by decide) (Nat.le_of_ble_eq_true rfl) d_MS_whole_33 ?_
      refine wi_nmM (fun s2 e_s2 => ?_)
      refine wi_aload_n hC 0 d_MS_whole_36 rfl rfl ?_
      refine wi_iload_n hC 1 d_MS_whole_37 rfl rfl ?_
      refine wi_iconst hC (-1) (by decide) d_MS_whole_38 ?_
      refine wi_iconst hC 1 (by decide) d_MS_whole_39 ?_
      refine k_MS_goesOn_n hC true rfl hp wd_880 (by decide) (Nat.le_of_ble_eq_true rfl) d_MS_whole_40 ?_
      obtain ⟨r1, e_r1⟩ : ∃ y : Bool × St, f_MS_goesOn_n s2 a1 true = y := ⟨_, rfl⟩
      rw [e_r1]
      obtain ⟨Tt2, eTt2⟩ : ∃ y : St, y = (
              if r1.1 = true then
                if f_MS_kind r1.2 a1 = 4 then
                  let s5 : St := f_MS_answer r1.2 (gI r1.2 110 (jat a1)) (gJ r1.2 111 (jat a1))
                  s5
                else
                  if (f_MS_unit r1.2 a1) < 0 then
                    let r2 : Int64 × St := f_MS_rounded r1.2 (gJ r1.2 111 (jat a1)) (-(f_MS_unit r1.2 a1)) (f_MS_minus r1.2 a1)
                    let t3 : St := 
                        if gZ r2.2 36 42 = true then
                          let r3 : Bool × St := f_MS_tell r2.2 32
                          r3.2
                        else
                          r2.2
                    let s3 : St := f_MS_make t3 (f_MS_minus t3 a1) r2.1 0
                    s3
                  else
                    let s4 : St := f_MS_make r1.2 (f_MS_minus r1.2 a1) (gJ r1.2 111 (jat a1)) (f_MS_unit r1.2 a1)
                    s4
              else
                r1.2) := ⟨_, rfl⟩
      have Jt2 : ∀ (t2 : St), Tt2 = t2 → WS p l e { frames := 3, cells := 0, slots := 0, locals := 81 } s m args below meth c Q E 5 152 [(0, .ref 42), (1, .int a1), (2, .int a2)] [] (σ, t2, q) := by
        intro t2  e_t2
        rw [eTt2] at e_t2
        refine wi_aload_n hC 0 d_MS_whole_152 rfl rfl ?_
        refine wi_iload_n hC 2 d_MS_whole_153 rfl rfl ?_
        refine k_MS_keep hC hq wd_926 (by decide) (Nat.le_of_ble_eq_true rfl) d_MS_whole_154 ?_
        refine wi_nmM (fun s6 e_s6 => ?_)
        refine wi_aload_n hC 0 d_MS_whole_157 rfl rfl ?_
        refine wg_MS_told hC wd_825 d_MS_whole_158 ?_
        have hf : f_MS_whole τ a1 a2 = (gI s6 28 42, s6) := by subst e_s6; subst e_t2; subst e_r1; subst e_s2; subst e_s1; subst e_t1; exact (if_pos h3)
        exact wi_iret hC hr hk d_MS_whole_161 (congrArg (fun z => some (Value.int z.1)) hf) (congrArg (fun z => (σ, z.2, q)) hf).symm hQ
      refine wi_z_eq (b := r1.1) hC 152 d_MS_whole_43 (by decide) (fun h4 => ?_) (fun h4 => ?_)
      · skip
        exact Jt2 r1.2 (by exact (Eq.trans eTt2 (if_neg h4)))
      · skip
        refine wi_aload_n hC 0 d_MS_whole_46 rfl rfl ?_
        refine wi_iload_n hC 1 d_MS_whole_47 rfl rfl ?_
        refine k_MS_kind hC hp wd_852 (by decide) (Nat.le_of_ble_eq_true rfl) d_MS_whole_48 ?_
        refine wi_iconst hC 4 (by decide) d_MS_whole_51 ?_
        refine wi_icmp_ne hC 74 d_MS_whole_52 (by decide) (fun h5 => ?_) (fun h5 => ?_)
        · skip
          refine wi_aload_n hC 0 d_MS_whole_74 rfl rfl ?_
          refine wi_iload_n hC 1 d_MS_whole_75 rfl rfl ?_
          refine k_MS_unit hC hp wd_868 (by decide) (Nat.le_of_ble_eq_true rfl) d_MS_whole_76 ?_
          refine wi_if_lt hC 105 d_MS_whole_79 (by decide) (fun h6 => ?_) (fun h6 => ?_)
          · skip
            refine wi_aload_n hC 0 d_MS_whole_105 rfl rfl ?_
            refine wi_aload_n hC 0 d_MS_whole_106 rfl rfl ?_
            refine wg_MS_fraction hC wd_816 d_MS_whole_107 ?_
            refine wi_iload_n hC 1 d_MS_whole_110 rfl rfl ?_
            refine wa_ld44 hC hp d_MS_whole_111 ?_
            refine wi_aload_n hC 0 d_MS_whole_112 rfl rfl ?_
            refine wi_iload_n hC 1 d_MS_whole_113 rfl rfl ?_
            refine k_MS_unit hC hp wd_868 (by decide) (Nat.le_of_ble_eq_true rfl) d_MS_whole_114 ?_
            refine wi_ineg hC d_MS_whole_117 ?_
            refine wi_aload_n hC 0 d_MS_whole_118 rfl rfl ?_
            refine wi_iload_n hC 1 d_MS_whole_119 rfl rfl ?_
            refine k_MS_minus hC hp wd_860 (by decide) (Nat.le_of_ble_eq_true rfl) d_MS_whole_120 ?_
            refine k_MS_rounded hC (f_MS_minus r1.2 a1) rfl wd_917 (by decide) (Nat.le_of_ble_eq_true rfl) d_MS_whole_123 ?_
            obtain ⟨r2, e_r2⟩ : ∃ y : Int64 × St, f_MS_rounded r1.2 (gJ r1.2 111 (jat a1)) (-(f_MS_unit r1.2 a1)) (f_MS_minus r1.2 a1) = y := ⟨_, rfl⟩
            rw [e_r2]
            refine wi_lstore_n hC [(3, .long r2.1), (0, .ref 42), (1, .int a1), (2, .int a2)] d_MS_whole_126 rfl (by decide) rfl ?_
            refine wi_aload_n hC 1 d_MS_whole_127 rfl rfl ?_
            refine wg_MS_lost hC wd_912 d_MS_whole_128 ?_
            obtain ⟨Tt3, eTt3⟩ : ∃ y : St, y = (
                    if gZ r2.2 36 42 = true then
                      let r3 : Bool × St := f_MS_tell r2.2 32
                      r3.2
                    else
                      r2.2) := ⟨_, rfl⟩
            have Jt3 : ∀ (t3 : St), Tt3 = t3 → WS p l e { frames := 3, cells := 0, slots := 0, locals := 81 } s m args below meth c Q E 5 141 [(3, .long r2.1), (0, .ref 42), (1, .int a1), (2, .int a2)] [] (σ, t3, q) := by
              intro t3  e_t3
              rw [eTt3] at e_t3
              refine wi_aload_n hC 1 d_MS_whole_141 rfl rfl ?_
              refine wi_aload_n hC 1 d_MS_whole_142 rfl rfl ?_
              refine wi_iload_n hC 2 d_MS_whole_143 rfl rfl ?_
              refine k_MS_minus hC hp wd_860 (by decide) (Nat.le_of_ble_eq_true rfl) d_MS_whole_144 ?_
              refine wi_lload_n hC 0 d_MS_whole_147 rfl rfl ?_
              refine wi_iconst hC 0 (by decide) d_MS_whole_148 ?_
              refine k_MS_make hC (f_MS_minus t3 a1) rfl wd_925 (by decide) (Nat.le_of_ble_eq_true rfl) d_MS_whole_149 ?_
              refine wi_nmM (fun s3 e_s3 => ?_)
              refine wi_lv [1, 2, 3] [(0, .ref 42), (1, .int a1), (2, .int a2)] rfl ?_
              exact Jt2 s3 (by subst e_s3; subst e_t3; subst e_r2; exact (Eq.trans eTt2 (Eq.trans (if_pos h4) (Eq.trans (if_neg h5) (if_pos h6)))))
            refine wi_z_eq (b := (gZ r2.2 36 42)) hC 141 d_MS_whole_131 (by decide) (fun h7 => ?_) (fun h7 => ?_)
            · skip
              exact Jt3 r2.2 (by exact (Eq.trans eTt3 (if_neg h7)))
            · skip
              refine wi_aload_n hC 1 d_MS_whole_134 rfl rfl ?_
              refine wi_bipush hC 32 (by decide) d_MS_whole_135 ?_
              refine k_MS_tell hC (by decide) wd_853 (by decide) (Nat.le_of_ble_eq_true rfl) d_MS_whole_137 ?_
              obtain ⟨r3, e_r3⟩ : ∃ y : Bool × St, f_MS_tell r2.2 32 = y := ⟨_, rfl⟩
              rw [e_r3]
              refine wi_pop hC rfl d_MS_whole_140 ?_
              exact Jt3 r3.2 (by subst e_r3; exact (Eq.trans eTt3 (if_pos h7)))
          · skip
            refine wi_aload_n hC 0 d_MS_whole_82 rfl rfl ?_
            refine wi_aload_n hC 0 d_MS_whole_83 rfl rfl ?_
            refine wi_iload_n hC 1 d_MS_whole_84 rfl rfl ?_
            refine k_MS_minus hC hp wd_860 (by decide) (Nat.le_of_ble_eq_true rfl) d_MS_whole_85 ?_
            refine wi_aload_n hC 0 d_MS_whole_88 rfl rfl ?_
            refine wg_MS_fraction hC wd_816 d_MS_whole_89 ?_
            refine wi_iload_n hC 1 d_MS_whole_92 rfl rfl ?_
            refine wa_ld44 hC hp d_MS_whole_93 ?_
            refine wi_aload_n hC 0 d_MS_whole_94 rfl rfl ?_
            refine wi_iload_n hC 1 d_MS_whole_95 rfl rfl ?_
            refine k_MS_unit hC hp wd_868 (by decide) (Nat.le_of_ble_eq_true rfl) d_MS_whole_96 ?_
            refine k_MS_make hC (f_MS_minus r1.2 a1) rfl wd_925 (by decide) (Nat.le_of_ble_eq_true rfl) d_MS_whole_99 ?_
            refine wi_nmM (fun s4 e_s4 => ?_)
            refine wi_goto hC 152 d_MS_whole_102 (by decide) ?_
            exact Jt2 s4 (by subst e_s4; exact (Eq.trans eTt2 (Eq.trans (if_pos h4) (Eq.trans (if_neg h5) (if_neg h6)))))
        · skip
          refine wi_aload_n hC 0 d_MS_whole_55 rfl rfl ?_
          refine wi_aload_n hC 0 d_MS_whole_56 rfl rfl ?_
          refine wg_MS_top hC wd_815 d_MS_whole_57 ?_
          refine wi_iload_n hC 1 d_MS_whole_60 rfl rfl ?_
          refine wa_ld43 hC hp d_MS_whole_61 ?_
          refine wi_aload_n hC 0 d_MS_whole_62 rfl rfl ?_
          refine wg_MS_fraction hC wd_816 d_MS_whole_63 ?_
          refine wi_iload_n hC 1 d_MS_whole_66 rfl rfl ?_
          refine wa_ld44 hC hp d_MS_whole_67 ?_
          refine k_MS_answer hC  wd_854 (by decide) (Nat.le_of_ble_eq_true rfl) d_MS_whole_68 ?_
          refine wi_nmM (fun s5 e_s5 => ?_)
          refine wi_goto hC 152 d_MS_whole_71 (by decide) ?_
          exact Jt2 s5 (by subst e_s5; exact (Eq.trans eTt2 (Eq.trans (if_pos h4) (if_pos h5))))
    · skip
      refine wi_iconst hC 0 (by decide) d_MS_whole_30 ?_
      have hf : f_MS_whole τ a1 a2 = (0, s1) := by subst e_s1; subst e_t1; exact (if_neg h3)
      exact wi_iret hC hr hk d_MS_whole_31 (congrArg (fun z => some (Value.int z.1)) hf) (congrArg (fun z => (σ, z.2, q)) hf).symm hQ
  refine wi_z_ne (b := (f_MS_none a1)) hC 15 d_MS_whole_5 (by decide) (fun h1 => ?_) (fun h1 => ?_)
  · skip
    refine wi_iconst hC 1 (by decide) d_MS_whole_15 ?_
    refine wi_goto hC 20 d_MS_whole_16 (by decide) ?_
    exact Jt1 true (by exact (Eq.trans eTt1 (if_pos h1)))
  · skip
    refine wi_iload_n hC 2 d_MS_whole_8 rfl rfl ?_
    refine k_MS_none hC  wd_814 (by decide) (Nat.le_of_ble_eq_true rfl) d_MS_whole_9 ?_
    refine wi_z_eq (b := (f_MS_none a2)) hC 19 d_MS_whole_12 (by decide) (fun h2 => ?_) (fun h2 => ?_)
    · skip
      refine wi_iconst hC 0 (by decide) d_MS_whole_19 ?_
      exact Jt1 false (by exact (Eq.trans eTt1 (Eq.trans (if_neg h1) (if_neg h2))))
    · skip
      refine wi_iconst hC 1 (by decide) d_MS_whole_15 ?_
      refine wi_goto hC 20 d_MS_whole_16 (by decide) ?_
      exact Jt1 true (by exact (Eq.trans eTt1 (Eq.trans (if_neg h1) (if_pos h2))))
theorem k_MS_whole {p : Program} {l : Launch} {e : Env} {R : Room} {s : State} {m : MethodId} {args : Array Value} {below : List Frame} {meth : Method} {c : Code} {Q : State → Prop} {E : Ev} {nL pc index : Nat} {lv : List (Nat × Value)} {rest : List Value} {cc : ByteArray} {own : String} {σ τ : St} {q : Int64} {a1 : Int32} {a2 : Int32} (hC : Cx p s m args c cc nL own E)  (hp : vp_in a1 8) (hq : vp_in a2 8) (hl : Cond.methodLink own index y_MS_whole ∈ WL) (hR : 3 + 1 ≤ R.frames ∧ 8 + (5 + 11) + 81 ≤ R.locals) (hs8 : (rest.map fun v => v.category).sum ≤ 8) (d : decode cc pc = .ok (.invokevirtual index, 3)) (k : WS p l e R s m args below meth c Q E nL (pc + 3) lv ((.int ((f_MS_whole τ a1 a2).1)) :: rest) (σ, (f_MS_whole τ a1 a2).2, q)) : WS p l e R s m args below meth c Q E nL pc lv (.int a2 :: .int a1 :: .ref 42 :: rest) (σ, τ, q) := by
  exact wi_callV hC (n := 2) (vs := [.int a1, .int a2]) (rest := rest) 42 12 (by decide) rfl rfl rfl (c_MS_whole l E σ τ q a1 a2 hp hq) (by decide +kernel) wd_937 wd_809 wd_938 wd_939 ⟨rfl, rfl⟩ rfl rfl hl hR hs8 d k
set_option maxRecDepth 100000 in
set_option maxHeartbeats 400000 in
theorem c_MS_scale (l : Launch) (E : Ev) (σ τ : St) (q : Int64) (a1 : Int32) (a2 : Int32) (a3 : Int32) (hp : vp_in a1 8) (hq : vp_in a2 8) (hs : vp_in a3 8) : MF l y_MS_scale prog_15_method_25_code 7 (some .int) { frames := 3, cells := 0, slots := 0, locals := 81 } E [.ref 42, .int a1, .int a2, .int a3] (σ, τ, q) (some (.int ((f_MS_scale τ a1 a2 a3).1))) (σ, (f_MS_scale τ a1 a2 a3).2, q) := by
  refine MF_intro (lv0 := [(0, .ref 42), (1, .int a1), (2, .int a2), (3, .int a3)]) (by decide) wd_940 (Nat.le_of_ble_eq_true rfl) rfl ?_
  intro p e s m args below meth c Q hC hr hk hQ
  replace hC : Cx p s m args c prog_15_method_25_code 7 "PartnerStackModel$RealStepsModel" E := hC
  refine wi_aload_n hC 0 d_MS_scale_0 rfl rfl ?_
  refine wi_iload_n hC 1 d_MS_scale_1 rfl rfl ?_
  refine k_MS_none hC  wd_814 (by decide) (Nat.le_of_ble_eq_true rfl) d_MS_scale_2 ?_
  obtain ⟨Tt1, eTt1⟩ : ∃ y : Bool, y = (
          if f_MS_none a1 = true then
            true
          else
            if f_MS_none a2 = true then
              true
            else
              if f_MS_none a3 = true then
                true
              else
                false) := ⟨_, rfl⟩
  have Jt1 : ∀ (t1 : Bool), Tt1 = t1 → WS p l e { frames := 3, cells := 0, slots := 0, locals := 81 } s m args below meth c Q E 7 27 [(0, .ref 42), (1, .int a1), (2, .int a2), (3, .int a3)] [.int (bI t1), .ref 42] (σ, τ, q) := by
    intro t1  e_t1
    rw [eTt1] at e_t1
    refine wp_MS_code hC wd_806 d_MS_scale_27 ?_
    refine wi_nmM (fun s1 e_s1 => ?_)
    refine wi_aload_n hC 0 d_MS_scale_30 rfl rfl ?_
    refine wg_MS_code hC wd_806 d_MS_scale_31 ?_
    refine wi_if_le hC 39 d_MS_scale_34 (by decide) (fun h4 => ?_) (fun h4 => ?_)
    · skip
      refine wi_aload_n hC 0 d_MS_scale_39 rfl rfl ?_
      refine k_MS_begin hC  wd_879 (by decide) (Nat.le_of_ble_eq_true rfl) d_MS_scale_40 ?_
      refine wi_nmM (fun s2 e_s2 => ?_)
      refine wi_aload_n hC 0 d_MS_scale_43 rfl rfl ?_
      refine wi_iload_n hC 2 d_MS_scale_44 rfl rfl ?_
      refine k_MS_kind hC hq wd_852 (by decide) (Nat.le_of_ble_eq_true rfl) d_MS_scale_45 ?_
      refine wi_iconst hC 4 (by decide) d_MS_scale_48 ?_
      obtain ⟨Tt2, eTt2⟩ : ∃ y : Bool, y = (
              if 4 ≤ (f_MS_kind s2 a2) then
                false
              else
                true) := ⟨_, rfl⟩
      have Jt2 : ∀ (t2 : Bool), Tt2 = t2 → WS p l e { frames := 3, cells := 0, slots := 0, locals := 81 } s m args below meth c Q E 7 57 [(0, .ref 42), (1, .int a1), (2, .int a2), (3, .int a3)] [.int (bI t2)] (σ, s2, q) := by
        intro t2  e_t2
        rw [eTt2] at e_t2
        refine wi_istore hC [(4, .int (bI t2)), (0, .ref 42), (1, .int a1), (2, .int a2), (3, .int a3)] d_MS_scale_57 (by decide) rfl ?_
        refine wi_iload hC 0 d_MS_scale_59 rfl ?_
        obtain ⟨Tt3, eTt3⟩ : ∃ y : Bool × St, y = (
                if t2 = true then
                  if f_MS_nothing s2 a2 = true then
                    (t2, s2)
                  else
                    let s3 : St := f_MS_apart s2 a2
                    let t4 : Bool := 
                        if 14 ≤ (gI s3 35 42) then
                          false
                        else
                          true
                    (t4, s3)
                else
                  (t2, s2)) := ⟨_, rfl⟩
        have Jt3 : ∀ (t3 : Bool × St), Tt3 = t3 → WS p l e { frames := 3, cells := 0, slots := 0, locals := 81 } s m args below meth c Q E 7 93 [(4, .int (bI t3.1)), (0, .ref 42), (1, .int a1), (2, .int a2), (3, .int a3)] [] (σ, t3.2, q) := by
          intro t3  e_t3
          rw [eTt3] at e_t3
          refine wi_aload_n hC 1 d_MS_scale_93 rfl rfl ?_
          refine wi_iload_n hC 2 d_MS_scale_94 rfl rfl ?_
          refine wi_iload_n hC 3 d_MS_scale_95 rfl rfl ?_
          refine wi_iload hC 0 d_MS_scale_96 rfl ?_
          refine k_MS_goesOn hC t3.1 rfl hp hq wd_880 (by decide) (Nat.le_of_ble_eq_true rfl) d_MS_scale_98 ?_
          obtain ⟨r1, e_r1⟩ : ∃ y : Bool × St, f_MS_goesOn t3.2 a1 a2 t3.1 = y := ⟨_, rfl⟩
          rw [e_r1]
          obtain ⟨Tt5, eTt5⟩ : ∃ y : St, y = (
                  if r1.1 = true then
                    if f_MS_kind r1.2 a1 = 4 then
                      let s6 : St := f_MS_answer r1.2 (gI r1.2 110 (jat a1)) (gJ r1.2 111 (jat a1))
                      s6
                    else
                      let t6 : Int32 × St := 
                          if f_MS_nothing r1.2 a2 = true then
                            (0, r1.2)
                          else
                            let s4 : St := f_MS_apart r1.2 a2
                            let t7 : Int32 × Int32 := lpn ((b_MS_scale_151 s4)) (dbf 0 (gI s4 35 42)) (0, 0)
                            (t7.2, s4)
                      let t10 : Int32 := 
                          if f_MS_minus t6.2 a2 = true then
                            -t6.1
                          else
                            t6.1
                      let s5 : St := f_MS_make t6.2 (f_MS_minus t6.2 a1) (gJ t6.2 111 (jat a1)) ((f_MS_unit t6.2 a1) + t10)
                      s5
                  else
                    r1.2) := ⟨_, rfl⟩
          have Jt5 : ∀ (t5 : St), Tt5 = t5 → WS p l e { frames := 3, cells := 0, slots := 0, locals := 81 } s m args below meth c Q E 7 227 [(4, .int (bI t3.1)), (0, .ref 42), (1, .int a1), (2, .int a2), (3, .int a3)] [] (σ, t5, q) := by
            intro t5  e_t5
            rw [eTt5] at e_t5
            refine wi_aload_n hC 1 d_MS_scale_227 rfl rfl ?_
            refine wi_iload_n hC 4 d_MS_scale_228 rfl rfl ?_
            refine k_MS_keep hC hs wd_926 (by decide) (Nat.le_of_ble_eq_true rfl) d_MS_scale_229 ?_
            refine wi_nmM (fun s7 e_s7 => ?_)
            refine wi_aload_n hC 1 d_MS_scale_232 rfl rfl ?_
            refine wg_MS_told hC wd_825 d_MS_scale_233 ?_
            have hf : f_MS_scale τ a1 a2 a3 = (gI s7 28 42, s7) := by subst e_s7; subst e_t5; subst e_r1; subst e_t3; subst e_t2; subst e_s2; subst e_s1; subst e_t1; exact (if_pos h4)
            exact wi_iret hC hr hk d_MS_scale_236 (congrArg (fun z => some (Value.int z.1)) hf) (congrArg (fun z => (σ, z.2, q)) hf).symm hQ
          refine wi_z_eq (b := r1.1) hC 227 d_MS_scale_101 (by decide) (fun h9 => ?_) (fun h9 => ?_)
          · skip
            exact Jt5 r1.2 (by exact (Eq.trans eTt5 (if_neg h9)))
          · skip
            refine wi_aload_n hC 1 d_MS_scale_104 rfl rfl ?_
            refine wi_iload_n hC 2 d_MS_scale_105 rfl rfl ?_
            refine k_MS_kind hC hp wd_852 (by decide) (Nat.le_of_ble_eq_true rfl) d_MS_scale_106 ?_
            refine wi_iconst hC 4 (by decide) d_MS_scale_109 ?_
            refine wi_icmp_ne hC 132 d_MS_scale_110 (by decide) (fun h10 => ?_) (fun h10 => ?_)
            · skip
              refine wi_iconst hC 0 (by decide) d_MS_scale_132 ?_
              refine wi_istore hC [(5, .int 0), (4, .int (bI t3.1)), (0, .ref 42), (1, .int a1), (2, .int a2), (3, .int a3)] d_MS_scale_133 (by decide) rfl ?_
              refine wi_aload_n hC 2 d_MS_scale_135 rfl rfl ?_
              refine wi_iload_n hC 4 d_MS_scale_136 rfl rfl ?_
              refine k_MS_nothing hC hq wd_874 (by decide) (Nat.le_of_ble_eq_true rfl) d_MS_scale_137 ?_
              obtain ⟨Tt6, eTt6⟩ : ∃ y : Int32 × St, y = (
                      if f_MS_nothing r1.2 a2 = true then
                        (0, r1.2)
                      else
                        let s4 : St := f_MS_apart r1.2 a2
                        let t7 : Int32 × Int32 := lpn ((b_MS_scale_151 s4)) (dbf 0 (gI s4 35 42)) (0, 0)
                        (t7.2, s4)) := ⟨_, rfl⟩
              have Jt6 : ∀ (t6 : Int32 × St), Tt6 = t6 → WS p l e { frames := 3, cells := 0, slots := 0, locals := 81 } s m args below meth c Q E 7 190 [(5, .int t6.1), (4, .int (bI t3.1)), (0, .ref 42), (1, .int a1), (2, .int a2), (3, .int a3)] [] (σ, t6.2, q) := by
                intro t6  e_t6
                rw [eTt6] at e_t6
                refine wi_aload_n hC 2 d_MS_scale_190 rfl rfl ?_
                refine wi_aload_n hC 2 d_MS_scale_191 rfl rfl ?_
                refine wi_iload_n hC 3 d_MS_scale_192 rfl rfl ?_
                refine k_MS_minus hC hp wd_860 (by decide) (Nat.le_of_ble_eq_true rfl) d_MS_scale_193 ?_
                refine wi_aload_n hC 2 d_MS_scale_196 rfl rfl ?_
                refine wg_MS_fraction hC wd_816 d_MS_scale_197 ?_
                refine wi_iload_n hC 3 d_MS_scale_200 rfl rfl ?_
                refine wa_ld44 hC hp d_MS_scale_201 ?_
                refine wi_aload_n hC 2 d_MS_scale_202 rfl rfl ?_
                refine wi_iload_n hC 3 d_MS_scale_203 rfl rfl ?_
                refine k_MS_unit hC hp wd_868 (by decide) (Nat.le_of_ble_eq_true rfl) d_MS_scale_204 ?_
                refine wi_aload_n hC 2 d_MS_scale_207 rfl rfl ?_
                refine wi_iload_n hC 4 d_MS_scale_208 rfl rfl ?_
                refine k_MS_minus hC hq wd_860 (by decide) (Nat.le_of_ble_eq_true rfl) d_MS_scale_209 ?_
                obtain ⟨Tt10, eTt10⟩ : ∃ y : Int32, y = (
                        if f_MS_minus t6.2 a2 = true then
                          -t6.1
                        else
                          t6.1) := ⟨_, rfl⟩
                have Jt10 : ∀ (t10 : Int32), Tt10 = t10 → WS p l e { frames := 3, cells := 0, slots := 0, locals := 81 } s m args below meth c Q E 7 223 [(5, .int t6.1), (4, .int (bI t3.1)), (0, .ref 42), (1, .int a1), (2, .int a2), (3, .int a3)] [.int t10, .int (f_MS_unit t6.2 a1), .long (gJ t6.2 111 (jat a1)), .int (bI (f_MS_minus t6.2 a1)), .ref 42] (σ, t6.2, q) := by
                  intro t10  e_t10
                  rw [eTt10] at e_t10
                  refine wi_iadd hC d_MS_scale_223 ?_
                  refine k_MS_make hC (f_MS_minus t6.2 a1) rfl wd_925 (by decide) (Nat.le_of_ble_eq_true rfl) d_MS_scale_224 ?_
                  refine wi_nmM (fun s5 e_s5 => ?_)
                  refine wi_lv [1, 2, 3, 4, 5] [(4, .int (bI t3.1)), (0, .ref 42), (1, .int a1), (2, .int a2), (3, .int a3)] rfl ?_
                  exact Jt5 s5 (by subst e_s5; subst e_t10; subst e_t6; exact (Eq.trans eTt5 (Eq.trans (if_pos h9) (if_neg h10))))
                refine wi_z_eq (b := (f_MS_minus t6.2 a2)) hC 221 d_MS_scale_212 (by decide) (fun h14 => ?_) (fun h14 => ?_)
                · skip
                  refine wi_iload hC 0 d_MS_scale_221 rfl ?_
                  exact Jt10 t6.1 (by exact (Eq.trans eTt10 (if_neg h14)))
                · skip
                  refine wi_iload hC 0 d_MS_scale_215 rfl ?_
                  refine wi_ineg hC d_MS_scale_217 ?_
                  refine wi_goto hC 223 d_MS_scale_218 (by decide) ?_
                  exact Jt10 (-t6.1) (by exact (Eq.trans eTt10 (if_pos h14)))
              refine wi_z_ne (b := (f_MS_nothing r1.2 a2)) hC 190 d_MS_scale_140 (by decide) (fun h11 => ?_) (fun h11 => ?_)
              · skip
                exact Jt6 (0, r1.2) (by exact (Eq.trans eTt6 (if_pos h11)))
              · skip
                refine wi_aload_n hC 2 d_MS_scale_143 rfl rfl ?_
                refine wi_iload_n hC 4 d_MS_scale_144 rfl rfl ?_
                refine k_MS_apart hC hq wd_878 (by decide) (Nat.le_of_ble_eq_true rfl) d_MS_scale_145 ?_
                refine wi_nmM (fun s4 e_s4 => ?_)
                refine wi_iconst hC 0 (by decide) d_MS_scale_148 ?_
                refine wi_istore hC [(6, .int 0), (5, .int 0), (4, .int (bI t3.1)), (0, .ref 42), (1, .int a1), (2, .int a2), (3, .int a3)] d_MS_scale_149 (by decide) rfl ?_
                refine wi_loop ((b_MS_scale_151 s4)) (fun t8 => True) (fun t8 => [(6, .int t8.1), (5, .int t8.2), (4, .int (bI t3.1)), (0, .ref 42), (1, .int a1), (2, .int a2), (3, .int a3)]) (fun t8 => (σ, s4, q)) 190 ?_ (fun _ _ _ _ => trivial) (dbf 0 (gI s4 35 42)) (0, 0) trivial (ule_halt (b := (b_MS_scale_151 s4)) (fun t => t.1) (gI s4 35 42) (by rw [← e_s4]; exact apart_le ..) (st_b_MS_scale_151 s4) (0, 0)) ?_
                · intro t8 hi_t8 hc_t8 hx_t8
                  refine wi_iload hC 0 d_MS_scale_151 rfl ?_
                  refine wi_aload_n hC 3 d_MS_scale_153 rfl rfl ?_
                  refine wg_MS_first hC wd_869 d_MS_scale_154 ?_
                  refine wi_icmp_gt hC 190 d_MS_scale_157 (by decide) (fun h12 => ?_) (fun h12 => ?_)
                  · skip
                    exact hx_t8 (t8.1, t8.2) (by exact (if_pos h12))
                  · skip
                    refine wi_iconst hC 2 (by decide) d_MS_scale_160 ?_
                    refine wi_iload hC 1 d_MS_scale_161 rfl ?_
                    refine wi_imul hC d_MS_scale_163 ?_
                    refine wi_aload_n hC 3 d_MS_scale_164 rfl rfl ?_
                    refine wg_MS_digits hC wd_867 d_MS_scale_165 ?_
                    refine wi_iload hC 0 d_MS_scale_168 rfl ?_
                    refine wi_lshl hC d_MS_scale_170 ?_
                    refine wi_lconst hC 0 (by decide) d_MS_scale_171 ?_
                    obtain ⟨Tt9, eTt9⟩ : ∃ y : Bool, y = (
                            if 0 ≤ (jlshl (gJ s4 34 42) t8.1) then
                              false
                            else
                              true) := ⟨_, rfl⟩
                    have Jt9 : ∀ (t9 : Bool), Tt9 = t9 → WS p l e { frames := 3, cells := 0, slots := 0, locals := 81 } s m args below meth c Q E 7 181 [(6, .int t8.1), (5, .int t8.2), (4, .int (bI t3.1)), (0, .ref 42), (1, .int a1), (2, .int a2), (3, .int a3)] [.int (bI t9), .int (2 * t8.2)] (σ, s4, q) := by
                      intro t9  e_t9
                      rw [eTt9] at e_t9
                      refine wi_iadd hC d_MS_scale_181 ?_
                      refine wi_nmI (fun v1 e_v1 => ?_)
                      refine wi_istore hC [(5, .int v1), (6, .int t8.1), (4, .int (bI t3.1)), (0, .ref 42), (1, .int a1), (2, .int a2), (3, .int a3)] d_MS_scale_182 (by decide) rfl ?_
                      obtain ⟨v2, e_v2⟩ : ∃ y : Int32, t8.1 + 1 = y := ⟨_, rfl⟩
                      refine wi_iinc hC 1 v2 [(6, .int v2), (5, .int v1), (4, .int (bI t3.1)), (0, .ref 42), (1, .int a1), (2, .int a2), (3, .int a3)] d_MS_scale_184 rfl (by rw [← e_v2]; rfl) (by decide) rfl ?_
                      refine wi_goto hC 151 d_MS_scale_187 (by decide) ?_
                      exact hc_t8 (v2, v1) (by subst e_v2; subst e_v1; subst e_t9; exact (if_neg h12))
                    refine wi_lcmp_ge hC 180 d_MS_scale_172 d_MS_scale_173 (by decide) (fun h13 => ?_) (fun h13 => ?_)
                    · skip
                      refine wi_iconst hC 0 (by decide) d_MS_scale_180 ?_
                      exact Jt9 false (by exact (Eq.trans eTt9 (if_pos h13)))
                    · skip
                      refine wi_iconst hC 1 (by decide) d_MS_scale_176 ?_
                      refine wi_goto hC 181 d_MS_scale_177 (by decide) ?_
                      exact Jt9 true (by exact (Eq.trans eTt9 (if_neg h13)))
                obtain ⟨t7, e_t7⟩ : ∃ y : Int32 × Int32, lpn ((b_MS_scale_151 s4)) (dbf 0 (gI s4 35 42)) (0, 0) = y := ⟨_, rfl⟩
                rw [e_t7]
                refine wi_lv [1, 2, 3, 4, 5, 6] [(5, .int t7.2), (4, .int (bI t3.1)), (0, .ref 42), (1, .int a1), (2, .int a2), (3, .int a3)] rfl ?_
                exact Jt6 (t7.2, s4) (by subst e_t7; subst e_s4; exact (Eq.trans eTt6 (if_neg h11)))
            · skip
              refine wi_aload_n hC 1 d_MS_scale_113 rfl rfl ?_
              refine wi_aload_n hC 1 d_MS_scale_114 rfl rfl ?_
              refine wg_MS_top hC wd_815 d_MS_scale_115 ?_
              refine wi_iload_n hC 2 d_MS_scale_118 rfl rfl ?_
              refine wa_ld43 hC hp d_MS_scale_119 ?_
              refine wi_aload_n hC 1 d_MS_scale_120 rfl rfl ?_
              refine wg_MS_fraction hC wd_816 d_MS_scale_121 ?_
              refine wi_iload_n hC 2 d_MS_scale_124 rfl rfl ?_
              refine wa_ld44 hC hp d_MS_scale_125 ?_
              refine k_MS_answer hC  wd_854 (by decide) (Nat.le_of_ble_eq_true rfl) d_MS_scale_126 ?_
              refine wi_nmM (fun s6 e_s6 => ?_)
              refine wi_goto hC 227 d_MS_scale_129 (by decide) ?_
              exact Jt5 s6 (by subst e_s6; exact (Eq.trans eTt5 (Eq.trans (if_pos h9) (if_pos h10))))
        refine wi_z_eq (b := t2) hC 93 d_MS_scale_61 (by decide) (fun h6 => ?_) (fun h6 => ?_)
        · skip
          exact Jt3 (t2, s2) (by exact (Eq.trans eTt3 (if_neg h6)))
        · skip
          refine wi_aload_n hC 1 d_MS_scale_64 rfl rfl ?_
          refine wi_iload_n hC 3 d_MS_scale_65 rfl rfl ?_
          refine k_MS_nothing hC hq wd_874 (by decide) (Nat.le_of_ble_eq_true rfl) d_MS_scale_66 ?_
          refine wi_z_ne (b := (f_MS_nothing s2 a2)) hC 93 d_MS_scale_69 (by decide) (fun h7 => ?_) (fun h7 => ?_)
          · skip
            exact Jt3 (t2, s2) (by exact (Eq.trans eTt3 (Eq.trans (if_pos h6) (if_pos h7))))
          · skip
            refine wi_aload_n hC 1 d_MS_scale_72 rfl rfl ?_
            refine wi_iload_n hC 3 d_MS_scale_73 rfl rfl ?_
            refine k_MS_apart hC hq wd_878 (by decide) (Nat.le_of_ble_eq_true rfl) d_MS_scale_74 ?_
            refine wi_nmM (fun s3 e_s3 => ?_)
            refine wi_aload_n hC 1 d_MS_scale_77 rfl rfl ?_
            refine wg_MS_first hC wd_869 d_MS_scale_78 ?_
            refine wi_bipush hC 14 (by decide) d_MS_scale_81 ?_
            obtain ⟨Tt4, eTt4⟩ : ∃ y : Bool, y = (
                    if 14 ≤ (gI s3 35 42) then
                      false
                    else
                      true) := ⟨_, rfl⟩
            have Jt4 : ∀ (t4 : Bool), Tt4 = t4 → WS p l e { frames := 3, cells := 0, slots := 0, locals := 81 } s m args below meth c Q E 7 91 [(4, .int (bI t2)), (0, .ref 42), (1, .int a1), (2, .int a2), (3, .int a3)] [.int (bI t4)] (σ, s3, q) := by
              intro t4  e_t4
              rw [eTt4] at e_t4
              refine wi_istore hC [(4, .int (bI t4)), (0, .ref 42), (1, .int a1), (2, .int a2), (3, .int a3)] d_MS_scale_91 (by decide) rfl ?_
              exact Jt3 (t4, s3) (by subst e_t4; subst e_s3; exact (Eq.trans eTt3 (Eq.trans (if_pos h6) (if_neg h7))))
            refine wi_icmp_ge hC 90 d_MS_scale_83 (by decide) (fun h8 => ?_) (fun h8 => ?_)
            · skip
              refine wi_iconst hC 0 (by decide) d_MS_scale_90 ?_
              exact Jt4 false (by exact (Eq.trans eTt4 (if_pos h8)))
            · skip
              refine wi_iconst hC 1 (by decide) d_MS_scale_86 ?_
              refine wi_goto hC 91 d_MS_scale_87 (by decide) ?_
              exact Jt4 true (by exact (Eq.trans eTt4 (if_neg h8)))
      refine wi_icmp_ge hC 56 d_MS_scale_49 (by decide) (fun h5 => ?_) (fun h5 => ?_)
      · skip
        refine wi_iconst hC 0 (by decide) d_MS_scale_56 ?_
        exact Jt2 false (by exact (Eq.trans eTt2 (if_pos h5)))
      · skip
        refine wi_iconst hC 1 (by decide) d_MS_scale_52 ?_
        refine wi_goto hC 57 d_MS_scale_53 (by decide) ?_
        exact Jt2 true (by exact (Eq.trans eTt2 (if_neg h5)))
    · skip
      refine wi_iconst hC 0 (by decide) d_MS_scale_37 ?_
      have hf : f_MS_scale τ a1 a2 a3 = (0, s1) := by subst e_s1; subst e_t1; exact (if_neg h4)
      exact wi_iret hC hr hk d_MS_scale_38 (congrArg (fun z => some (Value.int z.1)) hf) (congrArg (fun z => (σ, z.2, q)) hf).symm hQ
  refine wi_z_ne (b := (f_MS_none a1)) hC 22 d_MS_scale_5 (by decide) (fun h1 => ?_) (fun h1 => ?_)
  · skip
    refine wi_iconst hC 1 (by decide) d_MS_scale_22 ?_
    refine wi_goto hC 27 d_MS_scale_23 (by decide) ?_
    exact Jt1 true (by exact (Eq.trans eTt1 (if_pos h1)))
  · skip
    refine wi_iload_n hC 2 d_MS_scale_8 rfl rfl ?_
    refine k_MS_none hC  wd_814 (by decide) (Nat.le_of_ble_eq_true rfl) d_MS_scale_9 ?_
    refine wi_z_ne (b := (f_MS_none a2)) hC 22 d_MS_scale_12 (by decide) (fun h2 => ?_) (fun h2 => ?_)
    · skip
      refine wi_iconst hC 1 (by decide) d_MS_scale_22 ?_
      refine wi_goto hC 27 d_MS_scale_23 (by decide) ?_
      exact Jt1 true (by exact (Eq.trans eTt1 (Eq.trans (if_neg h1) (if_pos h2))))
    · skip
      refine wi_iload_n hC 3 d_MS_scale_15 rfl rfl ?_
      refine k_MS_none hC  wd_814 (by decide) (Nat.le_of_ble_eq_true rfl) d_MS_scale_16 ?_
      refine wi_z_eq (b := (f_MS_none a3)) hC 26 d_MS_scale_19 (by decide) (fun h3 => ?_) (fun h3 => ?_)
      · skip
        refine wi_iconst hC 0 (by decide) d_MS_scale_26 ?_
        exact Jt1 false (by exact (Eq.trans eTt1 (Eq.trans (if_neg h1) (Eq.trans (if_neg h2) (if_neg h3)))))
      · skip
        refine wi_iconst hC 1 (by decide) d_MS_scale_22 ?_
        refine wi_goto hC 27 d_MS_scale_23 (by decide) ?_
        exact Jt1 true (by exact (Eq.trans eTt1 (Eq.trans (if_neg h1) (Eq.trans (if_neg h2) (if_pos h3)))))
theorem k_MS_scale {p : Program} {l : Launch} {e : Env} {R : Room} {s : State} {m : MethodId} {args : Array Value} {below : List Frame} {meth : Method} {c : Code} {Q : State → Prop} {E : Ev} {nL pc index : Nat} {lv : List (Nat × Value)} {rest : List Value} {cc : ByteArray} {own : String} {σ τ : St} {q : Int64} {a1 : Int32} {a2 : Int32} {a3 : Int32} (hC : Cx p s m args c cc nL own E)  (hp : vp_in a1 8) (hq : vp_in a2 8) (hs : vp_in a3 8) (hl : Cond.methodLink own index y_MS_scale ∈ WL) (hR : 3 + 1 ≤ R.frames ∧ 8 + (7 + 11) + 81 ≤ R.locals) (hs8 : (rest.map fun v => v.category).sum ≤ 8) (d : decode cc pc = .ok (.invokevirtual index, 3)) (k : WS p l e R s m args below meth c Q E nL (pc + 3) lv ((.int ((f_MS_scale τ a1 a2 a3).1)) :: rest) (σ, (f_MS_scale τ a1 a2 a3).2, q)) : WS p l e R s m args below meth c Q E nL pc lv (.int a3 :: .int a2 :: .int a1 :: .ref 42 :: rest) (σ, τ, q) := by
  exact wi_callV hC (n := 3) (vs := [.int a1, .int a2, .int a3]) (rest := rest) 42 12 (by decide) rfl rfl rfl (c_MS_scale l E σ τ q a1 a2 a3 hp hq hs) (by decide +kernel) wd_940 wd_809 wd_941 wd_942 ⟨rfl, rfl⟩ rfl rfl hl hR hs8 d k
