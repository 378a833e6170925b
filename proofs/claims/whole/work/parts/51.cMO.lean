set_option maxRecDepth 100000 in
set_option maxHeartbeats 400000 in
theorem c_MO_control (l : Launch) (E : Ev) (σ τ : St) (q : Int64) (a1 : Int32)  : MF l y_MO_control prog_14_method_3_code 2 none { frames := 0, cells := 0, slots := 0, locals := 0 } E [.ref 35, .int a1] (σ, τ, q) none (σ, (f_MO_control τ a1), q) := by
  refine MF_intro (lv0 := [(0, .ref 35), (1, .int a1)]) (by decide) wd_661 (Nat.le_of_ble_eq_true rfl) rfl ?_
  intro p e s m args below meth c Q hC hr hk hQ
  replace hC : Cx p s m args c prog_14_method_3_code 2 "PartnerStackModel$RealOperationsModel" E := hC
  refine wi_aload_n hC 0 d_MO_control_0 rfl rfl ?_
  refine wi_iload_n hC 1 d_MO_control_1 rfl rfl ?_
  obtain ⟨Tt1, eTt1⟩ : ∃ y : Bool, y = (
          if a1 < 0 then
            true
          else
            if a1 ≤ 65535 then
              false
            else
              true) := ⟨_, rfl⟩
  have Jt1 : ∀ (t1 : Bool), Tt1 = t1 → WS p l e { frames := 0, cells := 0, slots := 0, locals := 0 } s m args below meth c Q E 2 16 [(0, .ref 35), (1, .int a1)] [.int (bI t1), .ref 35] (σ, τ, q) := by
    intro t1  e_t1
    rw [eTt1] at e_t1
    refine wp_MO_code hC wd_659 d_MO_control_16 ?_
    refine wi_nmM (fun s1 e_s1 => ?_)
    refine wi_aload_n hC 0 d_MO_control_19 rfl rfl ?_
    refine wg_MO_code hC wd_659 d_MO_control_20 ?_
    obtain ⟨Tt2, eTt2⟩ : ∃ y : St, y = (
            if gI s1 15 35 = 0 then
              let s2 : St := sI s1 16 35 a1
              s2
            else
              s1) := ⟨_, rfl⟩
    have Jt2 : ∀ (t2 : St), Tt2 = t2 → WS p l e { frames := 0, cells := 0, slots := 0, locals := 0 } s m args below meth c Q E 2 31 [(0, .ref 35), (1, .int a1)] [] (σ, t2, q) := by
      intro t2  e_t2
      rw [eTt2] at e_t2
      have hf : f_MO_control τ a1 = t2 := by subst e_t2; subst e_s1; subst e_t1; exact rfl
      exact wi_vret hC hr hk d_MO_control_31 rfl (congrArg (fun z => (σ, z, q)) hf).symm hQ
    refine wi_if_ne hC 31 d_MO_control_23 (by decide) (fun h3 => ?_) (fun h3 => ?_)
    · skip
      exact Jt2 s1 (by exact (Eq.trans eTt2 (if_neg h3)))
    · skip
      refine wi_aload_n hC 0 d_MO_control_26 rfl rfl ?_
      refine wi_iload_n hC 1 d_MO_control_27 rfl rfl ?_
      refine wp_MO_word hC wd_660 d_MO_control_28 ?_
      refine wi_nmM (fun s2 e_s2 => ?_)
      exact Jt2 s2 (by subst e_s2; exact (Eq.trans eTt2 (if_pos h3)))
  refine wi_if_lt hC 11 d_MO_control_2 (by decide) (fun h1 => ?_) (fun h1 => ?_)
  · skip
    refine wi_iconst hC 1 (by decide) d_MO_control_11 ?_
    refine wi_goto hC 16 d_MO_control_12 (by decide) ?_
    exact Jt1 true (by exact (Eq.trans eTt1 (if_pos h1)))
  · skip
    refine wi_iload_n hC 1 d_MO_control_5 rfl rfl ?_
    refine wi_ldc hC wd_658 d_MO_control_6 ?_
    refine wi_icmp_le hC 15 d_MO_control_8 (by decide) (fun h2 => ?_) (fun h2 => ?_)
    · skip
      refine wi_iconst hC 0 (by decide) d_MO_control_15 ?_
      exact Jt1 false (by exact (Eq.trans eTt1 (Eq.trans (if_neg h1) (if_pos h2))))
    · skip
      refine wi_iconst hC 1 (by decide) d_MO_control_11 ?_
      refine wi_goto hC 16 d_MO_control_12 (by decide) ?_
      exact Jt1 true (by exact (Eq.trans eTt1 (Eq.trans (if_neg h1) (if_neg h2))))
theorem k_MO_control {p : Program} {l : Launch} {e : Env} {R : Room} {s : State} {m : MethodId} {args : Array Value} {below : List Frame} {meth : Method} {c : Code} {Q : State → Prop} {E : Ev} {nL pc index : Nat} {lv : List (Nat × Value)} {rest : List Value} {cc : ByteArray} {own : String} {σ τ : St} {q : Int64} {a1 : Int32} (hC : Cx p s m args c cc nL own E)   (hl : Cond.methodLink own index y_MO_control ∈ WL) (hR : 0 + 1 ≤ R.frames ∧ 8 + (2 + 11) + 0 ≤ R.locals) (hs8 : (rest.map fun v => v.category).sum ≤ 8) (d : decode cc pc = .ok (.invokevirtual index, 3)) (k : WS p l e R s m args below meth c Q E nL (pc + 3) lv rest (σ, (f_MO_control τ a1), q)) : WS p l e R s m args below meth c Q E nL pc lv (.int a1 :: .ref 35 :: rest) (σ, τ, q) := by
  exact wi_callV hC (n := 1) (vs := [.int a1]) (rest := rest) 35 11 (by decide) rfl rfl rfl (c_MO_control l E σ τ q a1 ) (by decide +kernel) wd_661 wd_662 wd_663 wd_664 ⟨rfl, rfl⟩ rfl rfl hl hR hs8 d k
set_option maxRecDepth 100000 in
set_option maxHeartbeats 400000 in
theorem c_MO_none (l : Launch) (E : Ev) (σ τ : St) (q : Int64) (a1 : Int32)  : MF l y_MO_none prog_14_method_4_code 1 (some .boolean) { frames := 0, cells := 0, slots := 0, locals := 0 } E [.int a1] (σ, τ, q) (some (.int (bI (f_MO_none a1)))) (σ, τ, q) := by
  refine MF_intro (lv0 := [(0, .int a1)]) (by decide) wd_665 (Nat.le_of_ble_eq_true rfl) rfl ?_
  intro p e s m args below meth c Q hC hr hk hQ
  replace hC : Cx p s m args c prog_14_method_4_code 1 "PartnerStackModel$RealOperationsModel" E := hC
  refine wi_iload_n hC 0 d_MO_none_0 rfl rfl ?_
  obtain ⟨Tt1, eTt1⟩ : ∃ y : Bool, y = (
          if a1 < 0 then
            true
          else
            if a1 ≤ 7 then
              false
            else
              true) := ⟨_, rfl⟩
  have Jt1 : ∀ (t1 : Bool), Tt1 = t1 → WS p l e { frames := 0, cells := 0, slots := 0, locals := 0 } s m args below meth c Q E 1 15 [(0, .int a1)] [.int (bI t1)] (σ, τ, q) := by
    intro t1  e_t1
    rw [eTt1] at e_t1
    have hf : f_MO_none a1 = t1 := by subst e_t1; exact rfl
    exact wi_zret hC hr hk d_MO_none_15 rfl (congrArg (fun z => some (Value.int (bI z))) hf) rfl hQ
  refine wi_if_lt hC 10 d_MO_none_1 (by decide) (fun h1 => ?_) (fun h1 => ?_)
  · skip
    refine wi_iconst hC 1 (by decide) d_MO_none_10 ?_
    refine wi_goto hC 15 d_MO_none_11 (by decide) ?_
    exact Jt1 true (by exact (Eq.trans eTt1 (if_pos h1)))
  · skip
    refine wi_iload_n hC 0 d_MO_none_4 rfl rfl ?_
    refine wi_bipush hC 7 (by decide) d_MO_none_5 ?_
    refine wi_icmp_le hC 14 d_MO_none_7 (by decide) (fun h2 => ?_) (fun h2 => ?_)
    · skip
      refine wi_iconst hC 0 (by decide) d_MO_none_14 ?_
      exact Jt1 false (by exact (Eq.trans eTt1 (Eq.trans (if_neg h1) (if_pos h2))))
    · skip
      refine wi_iconst hC 1 (by decide) d_MO_none_10 ?_
      refine wi_goto hC 15 d_MO_none_11 (by decide) ?_
      exact Jt1 true (by exact (Eq.trans eTt1 (Eq.trans (if_neg h1) (if_neg h2))))
theorem k_MO_none {p : Program} {l : Launch} {e : Env} {R : Room} {s : State} {m : MethodId} {args : Array Value} {below : List Frame} {meth : Method} {c : Code} {Q : State → Prop} {E : Ev} {nL pc index : Nat} {lv : List (Nat × Value)} {rest : List Value} {cc : ByteArray} {own : String} {σ τ : St} {q : Int64} {a1 : Int32} (hC : Cx p s m args c cc nL own E)   (hl : Cond.methodLink own index y_MO_none ∈ WL) (hR : 0 + 1 ≤ R.frames ∧ 8 + (1 + 11) + 0 ≤ R.locals) (hs8 : (rest.map fun v => v.category).sum ≤ 8) (d : decode cc pc = .ok (.invokestatic index, 3)) (k : WS p l e R s m args below meth c Q E nL (pc + 3) lv ((.int (bI (f_MO_none a1))) :: rest) (σ, τ, q)) : WS p l e R s m args below meth c Q E nL pc lv (.int a1 :: rest) (σ, τ, q) := by
  exact wi_callS hC (n := 1) (vs := [.int a1]) (rest := rest) (c_MO_none l E σ τ q a1 ) (by decide +kernel) wd_665 wd_662 wd_666 ⟨rfl, rfl⟩ rfl rfl hl hR hs8 d k
set_option maxRecDepth 100000 in
set_option maxHeartbeats 400000 in
theorem c_MO_set (l : Launch) (E : Ev) (σ τ : St) (q : Int64) (a1 : Int32) (a2 : Int32) (a3 : Int32) (a4 : Int32) (hp : vp_in a1 8) : MF l y_MO_set prog_14_method_5_code 5 none { frames := 1, cells := 0, slots := 0, locals := 20 } E [.ref 35, .int a1, .int a2, .int a3, .int a4] (σ, τ, q) none (σ, (f_MO_set τ a1 a2 a3 a4), q) := by
  refine MF_intro (lv0 := [(0, .ref 35), (1, .int a1), (2, .int a2), (3, .int a3), (4, .int a4)]) (by decide) wd_671 (Nat.le_of_ble_eq_true rfl) rfl ?_
  intro p e s m args below meth c Q hC hr hk hQ
  replace hC : Cx p s m args c prog_14_method_5_code 5 "PartnerStackModel$RealOperationsModel" E := hC
  refine wi_aload_n hC 0 d_MO_set_0 rfl rfl ?_
  refine wi_iload_n hC 1 d_MO_set_1 rfl rfl ?_
  refine k_MO_none hC  wd_667 (by decide) (Nat.le_of_ble_eq_true rfl) d_MO_set_2 ?_
  obtain ⟨Tt1, eTt1⟩ : ∃ y : Int32, y = (
          if f_MO_none a1 = true then
            1
          else
            if a2 < 0 then
              2
            else
              if a2 ≤ 65535 then
                0
              else
                2) := ⟨_, rfl⟩
  have Jt1 : ∀ (t1 : Int32), Tt1 = t1 → WS p l e { frames := 1, cells := 0, slots := 0, locals := 20 } s m args below meth c Q E 5 27 [(0, .ref 35), (1, .int a1), (2, .int a2), (3, .int a3), (4, .int a4)] [.int t1, .ref 35] (σ, τ, q) := by
    intro t1  e_t1
    rw [eTt1] at e_t1
    refine wp_MO_code hC wd_659 d_MO_set_27 ?_
    refine wi_nmM (fun s1 e_s1 => ?_)
    refine wi_aload_n hC 0 d_MO_set_30 rfl rfl ?_
    refine wg_MO_code hC wd_659 d_MO_set_31 ?_
    refine wi_if_le hC 38 d_MO_set_34 (by decide) (fun h4 => ?_) (fun h4 => ?_)
    · skip
      refine wi_aload_n hC 0 d_MO_set_38 rfl rfl ?_
      refine wg_MO_top hC wd_668 d_MO_set_39 ?_
      refine wi_iload_n hC 1 d_MO_set_42 rfl rfl ?_
      refine wi_iload_n hC 2 d_MO_set_43 rfl rfl ?_
      refine wa_st36 hC (fun _ => by have q1 := cd_k (e_s1.symm ▸ h4); rw [← e_t1] at q1; (repeat' split at q1) <;> first | (exact absurd q1 (by decide)) | exact lo_n (by assumption)) hp d_MO_set_44 ?_
      refine wi_nmM (fun s2 e_s2 => ?_)
      refine wi_aload_n hC 0 d_MO_set_45 rfl rfl ?_
      refine wg_MO_fraction hC wd_669 d_MO_set_46 ?_
      refine wi_iload_n hC 1 d_MO_set_49 rfl rfl ?_
      refine wi_iload_n hC 3 d_MO_set_50 rfl rfl ?_
      refine wi_i2l hC d_MO_set_51 ?_
      refine wi_bipush hC 32 (by decide) d_MO_set_52 ?_
      refine wi_lshl hC d_MO_set_54 ?_
      refine wi_iload hC 4 d_MO_set_55 rfl ?_
      refine wi_i2l hC d_MO_set_57 ?_
      refine wi_ldc2 hC wd_670 d_MO_set_58 ?_
      refine wi_land hC d_MO_set_61 ?_
      refine wi_lor hC d_MO_set_62 ?_
      refine wa_st37 hC hp d_MO_set_63 ?_
      refine wi_nmM (fun s3 e_s3 => ?_)
      have hf : f_MO_set τ a1 a2 a3 a4 = s3 := by subst e_s3; subst e_s2; subst e_s1; subst e_t1; exact (if_pos h4)
      exact wi_vret hC hr hk d_MO_set_64 rfl (congrArg (fun z => (σ, z, q)) hf).symm hQ
    · skip
      have hf : f_MO_set τ a1 a2 a3 a4 = s1 := by subst e_s1; subst e_t1; exact (if_neg h4)
      exact wi_vret hC hr hk d_MO_set_37 rfl (congrArg (fun z => (σ, z, q)) hf).symm hQ
  refine wi_z_eq (b := (f_MO_none a1)) hC 12 d_MO_set_5 (by decide) (fun h1 => ?_) (fun h1 => ?_)
  · skip
    refine wi_iload_n hC 2 d_MO_set_12 rfl rfl ?_
    refine wi_if_lt hC 22 d_MO_set_13 (by decide) (fun h2 => ?_) (fun h2 => ?_)
    · skip
      refine wi_iconst hC 2 (by decide) d_MO_set_22 ?_
      refine wi_goto hC 27 d_MO_set_23 (by decide) ?_
      exact Jt1 2 (by exact (Eq.trans eTt1 (Eq.trans (if_neg h1) (if_pos h2))))
    · skip
      refine wi_iload_n hC 2 d_MO_set_16 rfl rfl ?_
      refine wi_ldc hC wd_658 d_MO_set_17 ?_
      refine wi_icmp_le hC 26 d_MO_set_19 (by decide) (fun h3 => ?_) (fun h3 => ?_)
      · skip
        refine wi_iconst hC 0 (by decide) d_MO_set_26 ?_
        exact Jt1 0 (by exact (Eq.trans eTt1 (Eq.trans (if_neg h1) (Eq.trans (if_neg h2) (if_pos h3)))))
      · skip
        refine wi_iconst hC 2 (by decide) d_MO_set_22 ?_
        refine wi_goto hC 27 d_MO_set_23 (by decide) ?_
        exact Jt1 2 (by exact (Eq.trans eTt1 (Eq.trans (if_neg h1) (Eq.trans (if_neg h2) (if_neg h3)))))
  · skip
    refine wi_iconst hC 1 (by decide) d_MO_set_8 ?_
    refine wi_goto hC 27 d_MO_set_9 (by decide) ?_
    exact Jt1 1 (by exact (Eq.trans eTt1 (if_pos h1)))
theorem k_MO_set {p : Program} {l : Launch} {e : Env} {R : Room} {s : State} {m : MethodId} {args : Array Value} {below : List Frame} {meth : Method} {c : Code} {Q : State → Prop} {E : Ev} {nL pc index : Nat} {lv : List (Nat × Value)} {rest : List Value} {cc : ByteArray} {own : String} {σ τ : St} {q : Int64} {a1 : Int32} {a2 : Int32} {a3 : Int32} {a4 : Int32} (hC : Cx p s m args c cc nL own E)  (hp : vp_in a1 8) (hl : Cond.methodLink own index y_MO_set ∈ WL) (hR : 1 + 1 ≤ R.frames ∧ 8 + (5 + 11) + 20 ≤ R.locals) (hs8 : (rest.map fun v => v.category).sum ≤ 8) (d : decode cc pc = .ok (.invokevirtual index, 3)) (k : WS p l e R s m args below meth c Q E nL (pc + 3) lv rest (σ, (f_MO_set τ a1 a2 a3 a4), q)) : WS p l e R s m args below meth c Q E nL pc lv (.int a4 :: .int a3 :: .int a2 :: .int a1 :: .ref 35 :: rest) (σ, τ, q) := by
  exact wi_callV hC (n := 4) (vs := [.int a1, .int a2, .int a3, .int a4]) (rest := rest) 35 11 (by decide) rfl rfl rfl (c_MO_set l E σ τ q a1 a2 a3 a4 hp) (by decide +kernel) wd_671 wd_662 wd_672 wd_673 ⟨rfl, rfl⟩ rfl rfl hl hR hs8 d k
set_option maxRecDepth 100000 in
set_option maxHeartbeats 400000 in
theorem c_MO_take (l : Launch) (E : Ev) (σ τ : St) (q : Int64) (a1 : Int32) (a2 : Int32) (hp : vp_in a1 2) (hq : vp_in a2 2) : MF l y_MO_take prog_14_method_32_code 3 none { frames := 0, cells := 0, slots := 0, locals := 0 } E [.ref 35, .int a1, .int a2] (σ, τ, q) none (σ, (f_MO_take τ a1 a2), q) := by
  refine MF_intro (lv0 := [(0, .ref 35), (1, .int a1), (2, .int a2)]) (by decide) wd_678 (Nat.le_of_ble_eq_true rfl) rfl ?_
  intro p e s m args below meth c Q hC hr hk hQ
  replace hC : Cx p s m args c prog_14_method_32_code 3 "PartnerStackModel$RealOperationsModel" E := hC
  refine wi_aload_n hC 0 d_MO_take_0 rfl rfl ?_
  refine wg_MO_minus hC wd_674 d_MO_take_1 ?_
  refine wi_iload_n hC 1 d_MO_take_4 rfl rfl ?_
  refine wi_aload_n hC 0 d_MO_take_5 rfl rfl ?_
  refine wg_MO_top hC wd_668 d_MO_take_6 ?_
  refine wi_iload_n hC 2 d_MO_take_9 rfl rfl ?_
  refine wa_ld36 hC (vin28 hq) d_MO_take_10 ?_
  refine wi_sipush hC 32767 (by decide) d_MO_take_11 ?_
  obtain ⟨Tt1, eTt1⟩ : ∃ y : Bool, y = (
          if (gI τ 104 (jat a2)) ≤ 32767 then
            false
          else
            true) := ⟨_, rfl⟩
  have Jt1 : ∀ (t1 : Bool), Tt1 = t1 → WS p l e { frames := 0, cells := 0, slots := 0, locals := 0 } s m args below meth c Q E 3 22 [(0, .ref 35), (1, .int a1), (2, .int a2)] [.int (bI t1), .int a1, .ref 38] (σ, τ, q) := by
    intro t1  e_t1
    rw [eTt1] at e_t1
    refine wa_st38 hC t1 rfl hp d_MO_take_22 ?_
    refine wi_nmM (fun s1 e_s1 => ?_)
    refine wi_aload_n hC 0 d_MO_take_23 rfl rfl ?_
    refine wg_MO_power hC wd_675 d_MO_take_24 ?_
    refine wi_iload_n hC 1 d_MO_take_27 rfl rfl ?_
    refine wi_aload_n hC 0 d_MO_take_28 rfl rfl ?_
    refine wg_MO_top hC wd_668 d_MO_take_29 ?_
    refine wi_iload_n hC 2 d_MO_take_32 rfl rfl ?_
    refine wa_ld36 hC (vin28 hq) d_MO_take_33 ?_
    refine wi_ldc hC wd_676 d_MO_take_34 ?_
    refine wi_irem hC (by decide) d_MO_take_36 ?_
    refine wi_inv (fun hv1 => ?_)
    refine wa_st39 hC (tk_pow hv1.2.2.2.2.2.2.2.1 hq) hp d_MO_take_37 ?_
    refine wi_nmM (fun s2 e_s2 => ?_)
    refine wi_aload_n hC 0 d_MO_take_38 rfl rfl ?_
    refine wg_MO_part hC wd_677 d_MO_take_39 ?_
    refine wi_iload_n hC 1 d_MO_take_42 rfl rfl ?_
    refine wi_aload_n hC 0 d_MO_take_43 rfl rfl ?_
    refine wg_MO_fraction hC wd_669 d_MO_take_44 ?_
    refine wi_iload_n hC 2 d_MO_take_47 rfl rfl ?_
    refine wa_ld37 hC (vin28 hq) d_MO_take_48 ?_
    refine wa_st40 hC hp d_MO_take_49 ?_
    refine wi_nmM (fun s3 e_s3 => ?_)
    have hf : f_MO_take τ a1 a2 = s3 := by subst e_s3; subst e_s2; subst e_s1; subst e_t1; exact rfl
    exact wi_vret hC hr hk d_MO_take_50 rfl (congrArg (fun z => (σ, z, q)) hf).symm hQ
  refine wi_icmp_le hC 21 d_MO_take_14 (by decide) (fun h1 => ?_) (fun h1 => ?_)
  · skip
    refine wi_iconst hC 0 (by decide) d_MO_take_21 ?_
    exact Jt1 false (by exact (Eq.trans eTt1 (if_pos h1)))
  · skip
    refine wi_iconst hC 1 (by decide) d_MO_take_17 ?_
    refine wi_goto hC 22 d_MO_take_18 (by decide) ?_
    exact Jt1 true (by exact (Eq.trans eTt1 (if_neg h1)))
theorem k_MO_take {p : Program} {l : Launch} {e : Env} {R : Room} {s : State} {m : MethodId} {args : Array Value} {below : List Frame} {meth : Method} {c : Code} {Q : State → Prop} {E : Ev} {nL pc index : Nat} {lv : List (Nat × Value)} {rest : List Value} {cc : ByteArray} {own : String} {σ τ : St} {q : Int64} {a1 : Int32} {a2 : Int32} (hC : Cx p s m args c cc nL own E)  (hp : vp_in a1 2) (hq : vp_in a2 2) (hl : Cond.methodLink own index y_MO_take ∈ WL) (hR : 0 + 1 ≤ R.frames ∧ 8 + (3 + 11) + 0 ≤ R.locals) (hs8 : (rest.map fun v => v.category).sum ≤ 8) (d : decode cc pc = .ok (.invokevirtual index, 3)) (k : WS p l e R s m args below meth c Q E nL (pc + 3) lv rest (σ, (f_MO_take τ a1 a2), q)) : WS p l e R s m args below meth c Q E nL pc lv (.int a2 :: .int a1 :: .ref 35 :: rest) (σ, τ, q) := by
  exact wi_callV hC (n := 2) (vs := [.int a1, .int a2]) (rest := rest) 35 11 (by decide) rfl rfl rfl (c_MO_take l E σ τ q a1 a2 hp hq) (by decide +kernel) wd_678 wd_662 wd_679 wd_680 ⟨rfl, rfl⟩ rfl rfl hl hR hs8 d k
set_option maxRecDepth 100000 in
set_option maxHeartbeats 400000 in
theorem c_MO_isNone (l : Launch) (E : Ev) (σ τ : St) (q : Int64) (a1 : Int32) (hp : vp_in a1 2) : MF l y_MO_isNone prog_14_method_9_code 2 (some .boolean) { frames := 0, cells := 0, slots := 0, locals := 0 } E [.ref 35, .int a1] (σ, τ, q) (some (.int (bI (f_MO_isNone τ a1)))) (σ, τ, q) := by
  refine MF_intro (lv0 := [(0, .ref 35), (1, .int a1)]) (by decide) wd_681 (Nat.le_of_ble_eq_true rfl) rfl ?_
  intro p e s m args below meth c Q hC hr hk hQ
  replace hC : Cx p s m args c prog_14_method_9_code 2 "PartnerStackModel$RealOperationsModel" E := hC
  refine wi_aload_n hC 0 d_MO_isNone_0 rfl rfl ?_
  refine wg_MO_power hC wd_675 d_MO_isNone_1 ?_
  refine wi_iload_n hC 1 d_MO_isNone_4 rfl rfl ?_
  refine wa_ld39 hC hp d_MO_isNone_5 ?_
  refine wi_sipush hC 32767 (by decide) d_MO_isNone_6 ?_
  obtain ⟨Tt1, eTt1⟩ : ∃ y : Bool, y = (
          if gI τ 107 (jat a1) = 32767 then
            if jlshl (gJ τ 108 (jat a1)) 1 = 0 then
              false
            else
              true
          else
            false) := ⟨_, rfl⟩
  have Jt1 : ∀ (t1 : Bool), Tt1 = t1 → WS p l e { frames := 0, cells := 0, slots := 0, locals := 0 } s m args below meth c Q E 2 30 [(0, .ref 35), (1, .int a1)] [.int (bI t1)] (σ, τ, q) := by
    intro t1  e_t1
    rw [eTt1] at e_t1
    have hf : f_MO_isNone τ a1 = t1 := by subst e_t1; exact rfl
    exact wi_zret hC hr hk d_MO_isNone_30 rfl (congrArg (fun z => some (Value.int (bI z))) hf) rfl hQ
  refine wi_icmp_ne hC 29 d_MO_isNone_9 (by decide) (fun h1 => ?_) (fun h1 => ?_)
  · skip
    refine wi_iconst hC 0 (by decide) d_MO_isNone_29 ?_
    exact Jt1 false (by exact (Eq.trans eTt1 (if_neg h1)))
  · skip
    refine wi_aload_n hC 0 d_MO_isNone_12 rfl rfl ?_
    refine wg_MO_part hC wd_677 d_MO_isNone_13 ?_
    refine wi_iload_n hC 1 d_MO_isNone_16 rfl rfl ?_
    refine wa_ld40 hC hp d_MO_isNone_17 ?_
    refine wi_iconst hC 1 (by decide) d_MO_isNone_18 ?_
    refine wi_lshl hC d_MO_isNone_19 ?_
    refine wi_lconst hC 0 (by decide) d_MO_isNone_20 ?_
    refine wi_lcmp_eq hC 29 d_MO_isNone_21 d_MO_isNone_22 (by decide) (fun h2 => ?_) (fun h2 => ?_)
    · skip
      refine wi_iconst hC 0 (by decide) d_MO_isNone_29 ?_
      exact Jt1 false (by exact (Eq.trans eTt1 (Eq.trans (if_pos h1) (if_pos h2))))
    · skip
      refine wi_iconst hC 1 (by decide) d_MO_isNone_25 ?_
      refine wi_goto hC 30 d_MO_isNone_26 (by decide) ?_
      exact Jt1 true (by exact (Eq.trans eTt1 (Eq.trans (if_pos h1) (if_neg h2))))
theorem k_MO_isNone {p : Program} {l : Launch} {e : Env} {R : Room} {s : State} {m : MethodId} {args : Array Value} {below : List Frame} {meth : Method} {c : Code} {Q : State → Prop} {E : Ev} {nL pc index : Nat} {lv : List (Nat × Value)} {rest : List Value} {cc : ByteArray} {own : String} {σ τ : St} {q : Int64} {a1 : Int32} (hC : Cx p s m args c cc nL own E)  (hp : vp_in a1 2) (hl : Cond.methodLink own index y_MO_isNone ∈ WL) (hR : 0 + 1 ≤ R.frames ∧ 8 + (2 + 11) + 0 ≤ R.locals) (hs8 : (rest.map fun v => v.category).sum ≤ 8) (d : decode cc pc = .ok (.invokevirtual index, 3)) (k : WS p l e R s m args below meth c Q E nL (pc + 3) lv ((.int (bI (f_MO_isNone τ a1))) :: rest) (σ, τ, q)) : WS p l e R s m args below meth c Q E nL pc lv (.int a1 :: .ref 35 :: rest) (σ, τ, q) := by
  exact wi_callV hC (n := 1) (vs := [.int a1]) (rest := rest) 35 11 (by decide) rfl rfl rfl (c_MO_isNone l E σ τ q a1 hp) (by decide +kernel) wd_681 wd_662 wd_682 wd_683 ⟨rfl, rfl⟩ rfl rfl hl hR hs8 d k
set_option maxRecDepth 100000 in
set_option maxHeartbeats 400000 in
theorem c_MO_below (l : Launch) (E : Ev) (σ τ : St) (q : Int64) (a1 : Int64) (a2 : Int64)  : MF l y_MO_below prog_14_method_15_code 4 (some .boolean) { frames := 0, cells := 0, slots := 0, locals := 0 } E [.long a1, .long a2] (σ, τ, q) (some (.int (bI (f_MO_below a1 a2)))) (σ, τ, q) := by
  refine MF_intro (lv0 := [(0, .long a1), (2, .long a2)]) (by decide) wd_684 (Nat.le_of_ble_eq_true rfl) rfl ?_
  intro p e s m args below meth c Q hC hr hk hQ
  replace hC : Cx p s m args c prog_14_method_15_code 4 "PartnerStackModel$RealOperationsModel" E := hC
  refine wi_lload_n hC 0 d_MO_below_0 rfl rfl ?_
  refine wi_lconst hC 0 (by decide) d_MO_below_1 ?_
  obtain ⟨Tt1, eTt1⟩ : ∃ y : Bool, y = (
          if a1 < 0 then
            false
          else
            true) := ⟨_, rfl⟩
  have Jt1 : ∀ (t1 : Bool), Tt1 = t1 → WS p l e { frames := 0, cells := 0, slots := 0, locals := 0 } s m args below meth c Q E 4 11 [(0, .long a1), (2, .long a2)] [.int (bI t1)] (σ, τ, q) := by
    intro t1  e_t1
    rw [eTt1] at e_t1
    refine wi_lload_n hC 1 d_MO_below_11 rfl rfl ?_
    refine wi_lconst hC 0 (by decide) d_MO_below_12 ?_
    obtain ⟨Tt2, eTt2⟩ : ∃ y : Bool, y = (
            if a2 < 0 then
              false
            else
              true) := ⟨_, rfl⟩
    have Jt2 : ∀ (t2 : Bool), Tt2 = t2 → WS p l e { frames := 0, cells := 0, slots := 0, locals := 0 } s m args below meth c Q E 4 22 [(0, .long a1), (2, .long a2)] [.int (bI t2), .int (bI t1)] (σ, τ, q) := by
      intro t2  e_t2
      rw [eTt2] at e_t2
      obtain ⟨Tt3, eTt3⟩ : ∃ y : Bool, y = (
              if t1 = t2 then
                if a2 ≤ a1 then
                  false
                else
                  true
              else
                if a1 < 0 then
                  false
                else
                  true) := ⟨_, rfl⟩
      have Jt3 : ∀ (t3 : Bool), Tt3 = t3 → WS p l e { frames := 0, cells := 0, slots := 0, locals := 0 } s m args below meth c Q E 4 50 [(0, .long a1), (2, .long a2)] [.int (bI t3)] (σ, τ, q) := by
        intro t3  e_t3
        rw [eTt3] at e_t3
        have hf : f_MO_below a1 a2 = t3 := by subst e_t3; subst e_t2; subst e_t1; exact rfl
        exact wi_zret hC hr hk d_MO_below_50 rfl (congrArg (fun z => some (Value.int (bI z))) hf) rfl hQ
      refine wi_zc_ne (a := t1) (b := t2) hC 39 d_MO_below_22 (by decide) (fun h3 => ?_) (fun h3 => ?_)
      · skip
        refine wi_lload_n hC 0 d_MO_below_39 rfl rfl ?_
        refine wi_lconst hC 0 (by decide) d_MO_below_40 ?_
        refine wi_lcmp_lt hC 49 d_MO_below_41 d_MO_below_42 (by decide) (fun h4 => ?_) (fun h4 => ?_)
        · skip
          refine wi_iconst hC 0 (by decide) d_MO_below_49 ?_
          exact Jt3 false (by exact (Eq.trans eTt3 (Eq.trans (if_neg h3) (if_pos h4))))
        · skip
          refine wi_iconst hC 1 (by decide) d_MO_below_45 ?_
          refine wi_goto hC 50 d_MO_below_46 (by decide) ?_
          exact Jt3 true (by exact (Eq.trans eTt3 (Eq.trans (if_neg h3) (if_neg h4))))
      · skip
        refine wi_lload_n hC 0 d_MO_below_25 rfl rfl ?_
        refine wi_lload_n hC 1 d_MO_below_26 rfl rfl ?_
        refine wi_lcmp_ge hC 35 d_MO_below_27 d_MO_below_28 (by decide) (fun h5 => ?_) (fun h5 => ?_)
        · skip
          refine wi_iconst hC 0 (by decide) d_MO_below_35 ?_
          refine wi_goto hC 50 d_MO_below_36 (by decide) ?_
          exact Jt3 false (by exact (Eq.trans eTt3 (Eq.trans (if_pos h3) (if_pos h5))))
        · skip
          refine wi_iconst hC 1 (by decide) d_MO_below_31 ?_
          refine wi_goto hC 50 d_MO_below_32 (by decide) ?_
          exact Jt3 true (by exact (Eq.trans eTt3 (Eq.trans (if_pos h3) (if_neg h5))))
    refine wi_lcmp_lt hC 21 d_MO_below_13 d_MO_below_14 (by decide) (fun h2 => ?_) (fun h2 => ?_)
    · skip
      refine wi_iconst hC 0 (by decide) d_MO_below_21 ?_
      exact Jt2 false (by exact (Eq.trans eTt2 (if_pos h2)))
    · skip
      refine wi_iconst hC 1 (by decide) d_MO_below_17 ?_
      refine wi_goto hC 22 d_MO_below_18 (by decide) ?_
      exact Jt2 true (by exact (Eq.trans eTt2 (if_neg h2)))
  refine wi_lcmp_lt hC 10 d_MO_below_2 d_MO_below_3 (by decide) (fun h1 => ?_) (fun h1 => ?_)
  · skip
    refine wi_iconst hC 0 (by decide) d_MO_below_10 ?_
    exact Jt1 false (by exact (Eq.trans eTt1 (if_pos h1)))
  · skip
    refine wi_iconst hC 1 (by decide) d_MO_below_6 ?_
    refine wi_goto hC 11 d_MO_below_7 (by decide) ?_
    exact Jt1 true (by exact (Eq.trans eTt1 (if_neg h1)))
theorem k_MO_below {p : Program} {l : Launch} {e : Env} {R : Room} {s : State} {m : MethodId} {args : Array Value} {below : List Frame} {meth : Method} {c : Code} {Q : State → Prop} {E : Ev} {nL pc index : Nat} {lv : List (Nat × Value)} {rest : List Value} {cc : ByteArray} {own : String} {σ τ : St} {q : Int64} {a1 : Int64} {a2 : Int64} (hC : Cx p s m args c cc nL own E)   (hl : Cond.methodLink own index y_MO_below ∈ WL) (hR : 0 + 1 ≤ R.frames ∧ 8 + (4 + 11) + 0 ≤ R.locals) (hs8 : (rest.map fun v => v.category).sum ≤ 8) (d : decode cc pc = .ok (.invokestatic index, 3)) (k : WS p l e R s m args below meth c Q E nL (pc + 3) lv ((.int (bI (f_MO_below a1 a2))) :: rest) (σ, τ, q)) : WS p l e R s m args below meth c Q E nL pc lv (.long a2 :: .long a1 :: rest) (σ, τ, q) := by
  exact wi_callS hC (n := 2) (vs := [.long a1, .long a2]) (rest := rest) (c_MO_below l E σ τ q a1 a2 ) (by decide +kernel) wd_684 wd_662 wd_685 ⟨rfl, rfl⟩ rfl rfl hl hR hs8 d k
set_option maxRecDepth 100000 in
set_option maxHeartbeats 400000 in
theorem c_MO_tell (l : Launch) (E : Ev) (σ τ : St) (q : Int64) (a1 : Int32)  : MF l y_MO_tell prog_14_method_16_code 2 (some .boolean) { frames := 0, cells := 0, slots := 0, locals := 0 } E [.ref 35, .int a1] (σ, τ, q) (some (.int (bI ((f_MO_tell τ a1).1)))) (σ, (f_MO_tell τ a1).2, q) := by
  refine MF_intro (lv0 := [(0, .ref 35), (1, .int a1)]) (by decide) wd_688 (Nat.le_of_ble_eq_true rfl) rfl ?_
  intro p e s m args below meth c Q hC hr hk hQ
  replace hC : Cx p s m args c prog_14_method_16_code 2 "PartnerStackModel$RealOperationsModel" E := hC
  refine wi_aload_n hC 0 d_MO_tell_0 rfl rfl ?_
  refine wi_aload_n hC 0 d_MO_tell_1 rfl rfl ?_
  refine wg_MO_told hC wd_686 d_MO_tell_2 ?_
  refine wi_iload_n hC 1 d_MO_tell_5 rfl rfl ?_
  refine wi_iadd hC d_MO_tell_6 ?_
  refine wp_MO_told hC wd_686 d_MO_tell_7 ?_
  refine wi_nmM (fun s1 e_s1 => ?_)
  refine wi_aload_n hC 0 d_MO_tell_10 rfl rfl ?_
  refine wi_aload_n hC 0 d_MO_tell_11 rfl rfl ?_
  refine wg_MO_word hC wd_660 d_MO_tell_12 ?_
  refine wi_iload_n hC 1 d_MO_tell_15 rfl rfl ?_
  refine wi_iand hC d_MO_tell_16 ?_
  obtain ⟨Tt1, eTt1⟩ : ∃ y : Bool, y = (
          if (gI s1 16 35) &&& a1 = 0 then
            true
          else
            false) := ⟨_, rfl⟩
  have Jt1 : ∀ (t1 : Bool), Tt1 = t1 → WS p l e { frames := 0, cells := 0, slots := 0, locals := 0 } s m args below meth c Q E 2 25 [(0, .ref 35), (1, .int a1)] [.int (bI t1), .ref 35] (σ, s1, q) := by
    intro t1  e_t1
    rw [eTt1] at e_t1
    refine wp_MO_stopped hC t1 rfl wd_687 d_MO_tell_25 ?_
    refine wi_nmM (fun s2 e_s2 => ?_)
    refine wi_aload_n hC 0 d_MO_tell_28 rfl rfl ?_
    refine wg_MO_stopped hC wd_687 d_MO_tell_29 ?_
    obtain ⟨Tt2, eTt2⟩ : ∃ y : Bool, y = (
            if gZ s2 22 35 = true then
              false
            else
              true) := ⟨_, rfl⟩
    have Jt2 : ∀ (t2 : Bool), Tt2 = t2 → WS p l e { frames := 0, cells := 0, slots := 0, locals := 0 } s m args below meth c Q E 2 40 [(0, .ref 35), (1, .int a1)] [.int (bI t2)] (σ, s2, q) := by
      intro t2  e_t2
      rw [eTt2] at e_t2
      have hf : f_MO_tell τ a1 = (t2, s2) := by subst e_t2; subst e_s2; subst e_t1; subst e_s1; exact rfl
      exact wi_zret hC hr hk d_MO_tell_40 rfl (congrArg (fun z => some (Value.int (bI z.1))) hf) (congrArg (fun z => (σ, z.2, q)) hf).symm hQ
    refine wi_z_ne (b := (gZ s2 22 35)) hC 39 d_MO_tell_32 (by decide) (fun h2 => ?_) (fun h2 => ?_)
    · skip
      refine wi_iconst hC 0 (by decide) d_MO_tell_39 ?_
      exact Jt2 false (by exact (Eq.trans eTt2 (if_pos h2)))
    · skip
      refine wi_iconst hC 1 (by decide) d_MO_tell_35 ?_
      refine wi_goto hC 40 d_MO_tell_36 (by decide) ?_
      exact Jt2 true (by exact (Eq.trans eTt2 (if_neg h2)))
  refine wi_if_ne hC 24 d_MO_tell_17 (by decide) (fun h1 => ?_) (fun h1 => ?_)
  · skip
    refine wi_iconst hC 0 (by decide) d_MO_tell_24 ?_
    exact Jt1 false (by exact (Eq.trans eTt1 (if_neg h1)))
  · skip
    refine wi_iconst hC 1 (by decide) d_MO_tell_20 ?_
    refine wi_goto hC 25 d_MO_tell_21 (by decide) ?_
    exact Jt1 true (by exact (Eq.trans eTt1 (if_pos h1)))
theorem k_MO_tell {p : Program} {l : Launch} {e : Env} {R : Room} {s : State} {m : MethodId} {args : Array Value} {below : List Frame} {meth : Method} {c : Code} {Q : State → Prop} {E : Ev} {nL pc index : Nat} {lv : List (Nat × Value)} {rest : List Value} {cc : ByteArray} {own : String} {σ τ : St} {q : Int64} {a1 : Int32} (hC : Cx p s m args c cc nL own E)   (hl : Cond.methodLink own index y_MO_tell ∈ WL) (hR : 0 + 1 ≤ R.frames ∧ 8 + (2 + 11) + 0 ≤ R.locals) (hs8 : (rest.map fun v => v.category).sum ≤ 8) (d : decode cc pc = .ok (.invokevirtual index, 3)) (k : WS p l e R s m args below meth c Q E nL (pc + 3) lv ((.int (bI ((f_MO_tell τ a1).1))) :: rest) (σ, (f_MO_tell τ a1).2, q)) : WS p l e R s m args below meth c Q E nL pc lv (.int a1 :: .ref 35 :: rest) (σ, τ, q) := by
  exact wi_callV hC (n := 1) (vs := [.int a1]) (rest := rest) 35 11 (by decide) rfl rfl rfl (c_MO_tell l E σ τ q a1 ) (by decide +kernel) wd_688 wd_662 wd_689 wd_690 ⟨rfl, rfl⟩ rfl rfl hl hR hs8 d k
set_option maxRecDepth 100000 in
set_option maxHeartbeats 400000 in
theorem c_MO_noNumber (l : Launch) (E : Ev) (σ τ : St) (q : Int64) (a1 : Int32) (a2 : Int32) (a3 : Int32) (hp : vp_in a2 8) (hq : vp_in a3 8) : MF l y_MO_noNumber prog_14_method_33_code 5 none { frames := 1, cells := 0, slots := 0, locals := 23 } E [.ref 35, .int a1, .int a2, .int a3] (σ, τ, q) none (σ, (f_MO_noNumber τ a1 a2 a3), q) := by
  refine MF_intro (lv0 := [(0, .ref 35), (1, .int a1), (2, .int a2), (3, .int a3)]) (by decide) wd_696 (Nat.le_of_ble_eq_true rfl) rfl ?_
  intro p e s m args below meth c Q hC hr hk hQ
  replace hC : Cx p s m args c prog_14_method_33_code 5 "PartnerStackModel$RealOperationsModel" E := hC
  refine wi_aload_n hC 0 d_MO_noNumber_0 rfl rfl ?_
  refine wi_iconst hC 0 (by decide) d_MO_noNumber_1 ?_
  refine k_MO_isNone hC (by unfold vp_in; decide) wd_691 (by decide) (Nat.le_of_ble_eq_true rfl) d_MO_noNumber_2 ?_
  obtain ⟨Tt1, eTt1⟩ : ∃ y : Bool, y = (
          if f_MO_isNone τ 0 = true then
            false
          else
            true) := ⟨_, rfl⟩
  have Jt1 : ∀ (t1 : Bool), Tt1 = t1 → WS p l e { frames := 1, cells := 0, slots := 0, locals := 23 } s m args below meth c Q E 5 13 [(0, .ref 35), (1, .int a1), (2, .int a2), (3, .int a3)] [.int (bI t1)] (σ, τ, q) := by
    intro t1  e_t1
    rw [eTt1] at e_t1
    refine wi_istore hC [(4, .int (bI t1)), (0, .ref 35), (1, .int a1), (2, .int a2), (3, .int a3)] d_MO_noNumber_13 (by decide) rfl ?_
    refine wi_iload_n hC 2 d_MO_noNumber_15 rfl rfl ?_
    refine wi_iconst hC 2 (by decide) d_MO_noNumber_16 ?_
    obtain ⟨Tt2, eTt2⟩ : ∃ y : Bool, y = (
            if a1 = 2 then
              if f_MO_isNone τ 0 = true then
                if f_MO_isNone τ 1 = true then
                  let t3 : Bool := 
                      if gJ τ 108 (jat 0) = gJ τ 108 (jat 1) then
                        if (gI τ 104 (jat a2)) ≤ 32767 then
                          false
                        else
                          if 32767 < (gI τ 104 (jat a3)) then
                            false
                          else
                            true
                      else
                        f_MO_below (gJ τ 108 (jat 0)) (gJ τ 108 (jat 1))
                  t3
                else
                  t1
              else
                t1
            else
              t1) := ⟨_, rfl⟩
    have Jt2 : ∀ (t2 : Bool), Tt2 = t2 → WS p l e { frames := 1, cells := 0, slots := 0, locals := 23 } s m args below meth c Q E 5 101 [(4, .int (bI t2)), (0, .ref 35), (1, .int a1), (2, .int a2), (3, .int a3)] [] (σ, τ, q) := by
      intro t2  e_t2
      rw [eTt2] at e_t2
      refine wi_aload_n hC 1 d_MO_noNumber_101 rfl rfl ?_
      refine wi_iconst hC 1 (by decide) d_MO_noNumber_102 ?_
      refine k_MO_tell hC  wd_693 (by decide) (Nat.le_of_ble_eq_true rfl) d_MO_noNumber_103 ?_
      obtain ⟨r1, e_r1⟩ : ∃ y : Bool × St, f_MO_tell τ 1 = y := ⟨_, rfl⟩
      rw [e_r1]
      refine wi_z_ne (b := r1.1) hC 110 d_MO_noNumber_106 (by decide) (fun h8 => ?_) (fun h8 => ?_)
      · skip
        refine wi_aload_n hC 1 d_MO_noNumber_110 rfl rfl ?_
        refine wi_iload hC 0 d_MO_noNumber_111 rfl ?_
        obtain ⟨Tt4, eTt4⟩ : ∃ y : Int32, y = (
                if t2 = true then
                  gI r1.2 104 (jat a3)
                else
                  gI r1.2 104 (jat a2)) := ⟨_, rfl⟩
        have Jt4 : ∀ (t4 : Int32), Tt4 = t4 → WS p l e { frames := 1, cells := 0, slots := 0, locals := 23 } s m args below meth c Q E 5 131 [(4, .int (bI t2)), (0, .ref 35), (1, .int a1), (2, .int a2), (3, .int a3)] [.int t4, .ref 35] (σ, r1.2, q) := by
          intro t4  e_t4
          rw [eTt4] at e_t4
          refine wp_MO_topOf hC wd_694 d_MO_noNumber_131 ?_
          refine wi_nmM (fun s1 e_s1 => ?_)
          refine wi_aload_n hC 1 d_MO_noNumber_134 rfl rfl ?_
          refine wi_iload hC 0 d_MO_noNumber_135 rfl ?_
          obtain ⟨Tt5, eTt5⟩ : ∃ y : Int64, y = (
                  if t2 = true then
                    gJ s1 105 (jat a3)
                  else
                    gJ s1 105 (jat a2)) := ⟨_, rfl⟩
          have Jt5 : ∀ (t5 : Int64), Tt5 = t5 → WS p l e { frames := 1, cells := 0, slots := 0, locals := 23 } s m args below meth c Q E 5 155 [(4, .int (bI t2)), (0, .ref 35), (1, .int a1), (2, .int a2), (3, .int a3)] [.long t5, .ref 35] (σ, s1, q) := by
            intro t5  e_t5
            rw [eTt5] at e_t5
            refine wp_MO_fractionOf hC wd_695 d_MO_noNumber_155 ?_
            refine wi_nmM (fun s2 e_s2 => ?_)
            have hf : f_MO_noNumber τ a1 a2 a3 = s2 := by subst e_s2; subst e_t5; subst e_s1; subst e_t4; subst e_r1; subst e_t2; subst e_t1; exact (if_pos h8)
            exact wi_vret hC hr hk d_MO_noNumber_158 rfl (congrArg (fun z => (σ, z, q)) hf).symm hQ
          refine wi_z_eq (b := t2) hC 149 d_MO_noNumber_137 (by decide) (fun h10 => ?_) (fun h10 => ?_)
          · skip
            refine wi_aload_n hC 1 d_MO_noNumber_149 rfl rfl ?_
            refine wg_MO_fraction hC wd_669 d_MO_noNumber_150 ?_
            refine wi_iload_n hC 3 d_MO_noNumber_153 rfl rfl ?_
            refine wa_ld37 hC hp d_MO_noNumber_154 ?_
            exact Jt5 (gJ s1 105 (jat a2)) (by exact (Eq.trans eTt5 (if_neg h10)))
          · skip
            refine wi_aload_n hC 1 d_MO_noNumber_140 rfl rfl ?_
            refine wg_MO_fraction hC wd_669 d_MO_noNumber_141 ?_
            refine wi_iload_n hC 4 d_MO_noNumber_144 rfl rfl ?_
            refine wa_ld37 hC hq d_MO_noNumber_145 ?_
            refine wi_goto hC 155 d_MO_noNumber_146 (by decide) ?_
            exact Jt5 (gJ s1 105 (jat a3)) (by exact (Eq.trans eTt5 (if_pos h10)))
        refine wi_z_eq (b := t2) hC 125 d_MO_noNumber_113 (by decide) (fun h9 => ?_) (fun h9 => ?_)
        · skip
          refine wi_aload_n hC 1 d_MO_noNumber_125 rfl rfl ?_
          refine wg_MO_top hC wd_668 d_MO_noNumber_126 ?_
          refine wi_iload_n hC 3 d_MO_noNumber_129 rfl rfl ?_
          refine wa_ld36 hC hp d_MO_noNumber_130 ?_
          exact Jt4 (gI r1.2 104 (jat a2)) (by exact (Eq.trans eTt4 (if_neg h9)))
        · skip
          refine wi_aload_n hC 1 d_MO_noNumber_116 rfl rfl ?_
          refine wg_MO_top hC wd_668 d_MO_noNumber_117 ?_
          refine wi_iload_n hC 4 d_MO_noNumber_120 rfl rfl ?_
          refine wa_ld36 hC hq d_MO_noNumber_121 ?_
          refine wi_goto hC 131 d_MO_noNumber_122 (by decide) ?_
          exact Jt4 (gI r1.2 104 (jat a3)) (by exact (Eq.trans eTt4 (if_pos h9)))
      · skip
        have hf : f_MO_noNumber τ a1 a2 a3 = r1.2 := by subst e_r1; subst e_t2; subst e_t1; exact (if_neg h8)
        exact wi_vret hC hr hk d_MO_noNumber_109 rfl (congrArg (fun z => (σ, z, q)) hf).symm hQ
    refine wi_icmp_ne hC 101 d_MO_noNumber_17 (by decide) (fun h2 => ?_) (fun h2 => ?_)
    · skip
      exact Jt2 t1 (by exact (Eq.trans eTt2 (if_neg h2)))
    · skip
      refine wi_aload_n hC 1 d_MO_noNumber_20 rfl rfl ?_
      refine wi_iconst hC 0 (by decide) d_MO_noNumber_21 ?_
      refine k_MO_isNone hC (by unfold vp_in; decide) wd_691 (by decide) (Nat.le_of_ble_eq_true rfl) d_MO_noNumber_22 ?_
      refine wi_z_eq (b := (f_MO_isNone τ 0)) hC 101 d_MO_noNumber_25 (by decide) (fun h3 => ?_) (fun h3 => ?_)
      · skip
        exact Jt2 t1 (by exact (Eq.trans eTt2 (Eq.trans (if_pos h2) (if_neg h3))))
      · skip
        refine wi_aload_n hC 1 d_MO_noNumber_28 rfl rfl ?_
        refine wi_iconst hC 1 (by decide) d_MO_noNumber_29 ?_
        refine k_MO_isNone hC (by unfold vp_in; decide) wd_691 (by decide) (Nat.le_of_ble_eq_true rfl) d_MO_noNumber_30 ?_
        refine wi_z_eq (b := (f_MO_isNone τ 1)) hC 101 d_MO_noNumber_33 (by decide) (fun h4 => ?_) (fun h4 => ?_)
        · skip
          exact Jt2 t1 (by exact (Eq.trans eTt2 (Eq.trans (if_pos h2) (Eq.trans (if_pos h3) (if_neg h4)))))
        · skip
          refine wi_aload_n hC 1 d_MO_noNumber_36 rfl rfl ?_
          refine wg_MO_part hC wd_677 d_MO_noNumber_37 ?_
          refine wi_iconst hC 0 (by decide) d_MO_noNumber_40 ?_
          refine wa_ld40 hC (by unfold vp_in; decide) d_MO_noNumber_41 ?_
          refine wi_aload_n hC 1 d_MO_noNumber_42 rfl rfl ?_
          refine wg_MO_part hC wd_677 d_MO_noNumber_43 ?_
          refine wi_iconst hC 1 (by decide) d_MO_noNumber_46 ?_
          refine wa_ld40 hC (by unfold vp_in; decide) d_MO_noNumber_47 ?_
          obtain ⟨Tt3, eTt3⟩ : ∃ y : Bool, y = (
                  if gJ τ 108 (jat 0) = gJ τ 108 (jat 1) then
                    if (gI τ 104 (jat a2)) ≤ 32767 then
                      false
                    else
                      if 32767 < (gI τ 104 (jat a3)) then
                        false
                      else
                        true
                  else
                    f_MO_below (gJ τ 108 (jat 0)) (gJ τ 108 (jat 1))) := ⟨_, rfl⟩
          have Jt3 : ∀ (t3 : Bool), Tt3 = t3 → WS p l e { frames := 1, cells := 0, slots := 0, locals := 23 } s m args below meth c Q E 5 99 [(4, .int (bI t1)), (0, .ref 35), (1, .int a1), (2, .int a2), (3, .int a3)] [.int (bI t3)] (σ, τ, q) := by
            intro t3  e_t3
            rw [eTt3] at e_t3
            refine wi_istore hC [(4, .int (bI t3)), (0, .ref 35), (1, .int a1), (2, .int a2), (3, .int a3)] d_MO_noNumber_99 (by decide) rfl ?_
            exact Jt2 t3 (by subst e_t3; exact (Eq.trans eTt2 (Eq.trans (if_pos h2) (Eq.trans (if_pos h3) (if_pos h4)))))
          refine wi_lcmp_ne hC 84 d_MO_noNumber_48 d_MO_noNumber_49 (by decide) (fun h5 => ?_) (fun h5 => ?_)
          · skip
            refine wi_aload_n hC 1 d_MO_noNumber_84 rfl rfl ?_
            refine wg_MO_part hC wd_677 d_MO_noNumber_85 ?_
            refine wi_iconst hC 0 (by decide) d_MO_noNumber_88 ?_
            refine wa_ld40 hC (by unfold vp_in; decide) d_MO_noNumber_89 ?_
            refine wi_aload_n hC 1 d_MO_noNumber_90 rfl rfl ?_
            refine wg_MO_part hC wd_677 d_MO_noNumber_91 ?_
            refine wi_iconst hC 1 (by decide) d_MO_noNumber_94 ?_
            refine wa_ld40 hC (by unfold vp_in; decide) d_MO_noNumber_95 ?_
            refine k_MO_below hC  wd_692 (by decide) (Nat.le_of_ble_eq_true rfl) d_MO_noNumber_96 ?_
            exact Jt3 (f_MO_below (gJ τ 108 (jat 0)) (gJ τ 108 (jat 1))) (by exact (Eq.trans eTt3 (if_neg h5)))
          · skip
            refine wi_aload_n hC 1 d_MO_noNumber_52 rfl rfl ?_
            refine wg_MO_top hC wd_668 d_MO_noNumber_53 ?_
            refine wi_iload_n hC 3 d_MO_noNumber_56 rfl rfl ?_
            refine wa_ld36 hC hp d_MO_noNumber_57 ?_
            refine wi_sipush hC 32767 (by decide) d_MO_noNumber_58 ?_
            refine wi_icmp_le hC 80 d_MO_noNumber_61 (by decide) (fun h6 => ?_) (fun h6 => ?_)
            · skip
              refine wi_iconst hC 0 (by decide) d_MO_noNumber_80 ?_
              refine wi_goto hC 99 d_MO_noNumber_81 (by decide) ?_
              exact Jt3 false (by exact (Eq.trans eTt3 (Eq.trans (if_pos h5) (if_pos h6))))
            · skip
              refine wi_aload_n hC 1 d_MO_noNumber_64 rfl rfl ?_
              refine wg_MO_top hC wd_668 d_MO_noNumber_65 ?_
              refine wi_iload_n hC 4 d_MO_noNumber_68 rfl rfl ?_
              refine wa_ld36 hC hq d_MO_noNumber_69 ?_
              refine wi_sipush hC 32767 (by decide) d_MO_noNumber_70 ?_
              refine wi_icmp_gt hC 80 d_MO_noNumber_73 (by decide) (fun h7 => ?_) (fun h7 => ?_)
              · skip
                refine wi_iconst hC 0 (by decide) d_MO_noNumber_80 ?_
                refine wi_goto hC 99 d_MO_noNumber_81 (by decide) ?_
                exact Jt3 false (by exact (Eq.trans eTt3 (Eq.trans (if_pos h5) (Eq.trans (if_neg h6) (if_pos h7)))))
              · skip
                refine wi_iconst hC 1 (by decide) d_MO_noNumber_76 ?_
                refine wi_goto hC 99 d_MO_noNumber_77 (by decide) ?_
                exact Jt3 true (by exact (Eq.trans eTt3 (Eq.trans (if_pos h5) (Eq.trans (if_neg h6) (if_neg h7)))))
  refine wi_z_ne (b := (f_MO_isNone τ 0)) hC 12 d_MO_noNumber_5 (by decide) (fun h1 => ?_) (fun h1 => ?_)
  · skip
    refine wi_iconst hC 0 (by decide) d_MO_noNumber_12 ?_
    exact Jt1 false (by exact (Eq.trans eTt1 (if_pos h1)))
  · skip
    refine wi_iconst hC 1 (by decide) d_MO_noNumber_8 ?_
    refine wi_goto hC 13 d_MO_noNumber_9 (by decide) ?_
    exact Jt1 true (by exact (Eq.trans eTt1 (if_neg h1)))
theorem k_MO_noNumber {p : Program} {l : Launch} {e : Env} {R : Room} {s : State} {m : MethodId} {args : Array Value} {below : List Frame} {meth : Method} {c : Code} {Q : State → Prop} {E : Ev} {nL pc index : Nat} {lv : List (Nat × Value)} {rest : List Value} {cc : ByteArray} {own : String} {σ τ : St} {q : Int64} {a1 : Int32} {a2 : Int32} {a3 : Int32} (hC : Cx p s m args c cc nL own E)  (hp : vp_in a2 8) (hq : vp_in a3 8) (hl : Cond.methodLink own index y_MO_noNumber ∈ WL) (hR : 1 + 1 ≤ R.frames ∧ 8 + (5 + 11) + 23 ≤ R.locals) (hs8 : (rest.map fun v => v.category).sum ≤ 8) (d : decode cc pc = .ok (.invokevirtual index, 3)) (k : WS p l e R s m args below meth c Q E nL (pc + 3) lv rest (σ, (f_MO_noNumber τ a1 a2 a3), q)) : WS p l e R s m args below meth c Q E nL pc lv (.int a3 :: .int a2 :: .int a1 :: .ref 35 :: rest) (σ, τ, q) := by
  exact wi_callV hC (n := 3) (vs := [.int a1, .int a2, .int a3]) (rest := rest) 35 11 (by decide) rfl rfl rfl (c_MO_noNumber l E σ τ q a1 a2 a3 hp hq) (by decide +kernel) wd_696 wd_662 wd_697 wd_698 ⟨rfl, rfl⟩ rfl rfl hl hR hs8 d k
set_option maxRecDepth 100000 in
set_option maxHeartbeats 400000 in
theorem c_MO_isNothing (l : Launch) (E : Ev) (σ τ : St) (q : Int64) (a1 : Int32) (hp : vp_in a1 2) : MF l y_MO_isNothing prog_14_method_11_code 2 (some .boolean) { frames := 0, cells := 0, slots := 0, locals := 0 } E [.ref 35, .int a1] (σ, τ, q) (some (.int (bI (f_MO_isNothing τ a1)))) (σ, τ, q) := by
  refine MF_intro (lv0 := [(0, .ref 35), (1, .int a1)]) (by decide) wd_699 (Nat.le_of_ble_eq_true rfl) rfl ?_
  intro p e s m args below meth c Q hC hr hk hQ
  replace hC : Cx p s m args c prog_14_method_11_code 2 "PartnerStackModel$RealOperationsModel" E := hC
  refine wi_aload_n hC 0 d_MO_isNothing_0 rfl rfl ?_
  refine wg_MO_power hC wd_675 d_MO_isNothing_1 ?_
  refine wi_iload_n hC 1 d_MO_isNothing_4 rfl rfl ?_
  refine wa_ld39 hC hp d_MO_isNothing_5 ?_
  refine wi_sipush hC 32767 (by decide) d_MO_isNothing_6 ?_
  obtain ⟨Tt1, eTt1⟩ : ∃ y : Bool, y = (
          if 32767 ≤ (gI τ 107 (jat a1)) then
            false
          else
            if gJ τ 108 (jat a1) = 0 then
              true
            else
              false) := ⟨_, rfl⟩
  have Jt1 : ∀ (t1 : Bool), Tt1 = t1 → WS p l e { frames := 0, cells := 0, slots := 0, locals := 0 } s m args below meth c Q E 2 28 [(0, .ref 35), (1, .int a1)] [.int (bI t1)] (σ, τ, q) := by
    intro t1  e_t1
    rw [eTt1] at e_t1
    have hf : f_MO_isNothing τ a1 = t1 := by subst e_t1; exact rfl
    exact wi_zret hC hr hk d_MO_isNothing_28 rfl (congrArg (fun z => some (Value.int (bI z))) hf) rfl hQ
  refine wi_icmp_ge hC 27 d_MO_isNothing_9 (by decide) (fun h1 => ?_) (fun h1 => ?_)
  · skip
    refine wi_iconst hC 0 (by decide) d_MO_isNothing_27 ?_
    exact Jt1 false (by exact (Eq.trans eTt1 (if_pos h1)))
  · skip
    refine wi_aload_n hC 0 d_MO_isNothing_12 rfl rfl ?_
    refine wg_MO_part hC wd_677 d_MO_isNothing_13 ?_
    refine wi_iload_n hC 1 d_MO_isNothing_16 rfl rfl ?_
    refine wa_ld40 hC hp d_MO_isNothing_17 ?_
    refine wi_lconst hC 0 (by decide) d_MO_isNothing_18 ?_
    refine wi_lcmp_ne hC 27 d_MO_isNothing_19 d_MO_isNothing_20 (by decide) (fun h2 => ?_) (fun h2 => ?_)
    · skip
      refine wi_iconst hC 0 (by decide) d_MO_isNothing_27 ?_
      exact Jt1 false (by exact (Eq.trans eTt1 (Eq.trans (if_neg h1) (if_neg h2))))
    · skip
      refine wi_iconst hC 1 (by decide) d_MO_isNothing_23 ?_
      refine wi_goto hC 28 d_MO_isNothing_24 (by decide) ?_
      exact Jt1 true (by exact (Eq.trans eTt1 (Eq.trans (if_neg h1) (if_pos h2))))
theorem k_MO_isNothing {p : Program} {l : Launch} {e : Env} {R : Room} {s : State} {m : MethodId} {args : Array Value} {below : List Frame} {meth : Method} {c : Code} {Q : State → Prop} {E : Ev} {nL pc index : Nat} {lv : List (Nat × Value)} {rest : List Value} {cc : ByteArray} {own : String} {σ τ : St} {q : Int64} {a1 : Int32} (hC : Cx p s m args c cc nL own E)  (hp : vp_in a1 2) (hl : Cond.methodLink own index y_MO_isNothing ∈ WL) (hR : 0 + 1 ≤ R.frames ∧ 8 + (2 + 11) + 0 ≤ R.locals) (hs8 : (rest.map fun v => v.category).sum ≤ 8) (d : decode cc pc = .ok (.invokevirtual index, 3)) (k : WS p l e R s m args below meth c Q E nL (pc + 3) lv ((.int (bI (f_MO_isNothing τ a1))) :: rest) (σ, τ, q)) : WS p l e R s m args below meth c Q E nL pc lv (.int a1 :: .ref 35 :: rest) (σ, τ, q) := by
  exact wi_callV hC (n := 1) (vs := [.int a1]) (rest := rest) 35 11 (by decide) rfl rfl rfl (c_MO_isNothing l E σ τ q a1 hp) (by decide +kernel) wd_699 wd_662 wd_700 wd_701 ⟨rfl, rfl⟩ rfl rfl hl hR hs8 d k
set_option maxRecDepth 100000 in
set_option maxHeartbeats 400000 in
theorem c_MO_isUnnormal (l : Launch) (E : Ev) (σ τ : St) (q : Int64) (a1 : Int32) (hp : vp_in a1 2) : MF l y_MO_isUnnormal prog_14_method_13_code 2 (some .boolean) { frames := 0, cells := 0, slots := 0, locals := 0 } E [.ref 35, .int a1] (σ, τ, q) (some (.int (bI (f_MO_isUnnormal τ a1)))) (σ, τ, q) := by
  refine MF_intro (lv0 := [(0, .ref 35), (1, .int a1)]) (by decide) wd_702 (Nat.le_of_ble_eq_true rfl) rfl ?_
  intro p e s m args below meth c Q hC hr hk hQ
  replace hC : Cx p s m args c prog_14_method_13_code 2 "PartnerStackModel$RealOperationsModel" E := hC
  refine wi_aload_n hC 0 d_MO_isUnnormal_0 rfl rfl ?_
  refine wg_MO_power hC wd_675 d_MO_isUnnormal_1 ?_
  refine wi_iload_n hC 1 d_MO_isUnnormal_4 rfl rfl ?_
  refine wa_ld39 hC hp d_MO_isUnnormal_5 ?_
  obtain ⟨Tt1, eTt1⟩ : ∃ y : Bool, y = (
          if (gI τ 107 (jat a1)) ≤ 0 then
            false
          else
            if 32767 ≤ (gI τ 107 (jat a1)) then
              false
            else
              if (gJ τ 108 (jat a1)) ≤ 0 then
                false
              else
                true) := ⟨_, rfl⟩
  have Jt1 : ∀ (t1 : Bool), Tt1 = t1 → WS p l e { frames := 0, cells := 0, slots := 0, locals := 0 } s m args below meth c Q E 2 37 [(0, .ref 35), (1, .int a1)] [.int (bI t1)] (σ, τ, q) := by
    intro t1  e_t1
    rw [eTt1] at e_t1
    have hf : f_MO_isUnnormal τ a1 = t1 := by subst e_t1; exact rfl
    exact wi_zret hC hr hk d_MO_isUnnormal_37 rfl (congrArg (fun z => some (Value.int (bI z))) hf) rfl hQ
  refine wi_if_le hC 36 d_MO_isUnnormal_6 (by decide) (fun h1 => ?_) (fun h1 => ?_)
  · skip
    refine wi_iconst hC 0 (by decide) d_MO_isUnnormal_36 ?_
    exact Jt1 false (by exact (Eq.trans eTt1 (if_pos h1)))
  · skip
    refine wi_aload_n hC 0 d_MO_isUnnormal_9 rfl rfl ?_
    refine wg_MO_power hC wd_675 d_MO_isUnnormal_10 ?_
    refine wi_iload_n hC 1 d_MO_isUnnormal_13 rfl rfl ?_
    refine wa_ld39 hC hp d_MO_isUnnormal_14 ?_
    refine wi_sipush hC 32767 (by decide) d_MO_isUnnormal_15 ?_
    refine wi_icmp_ge hC 36 d_MO_isUnnormal_18 (by decide) (fun h2 => ?_) (fun h2 => ?_)
    · skip
      refine wi_iconst hC 0 (by decide) d_MO_isUnnormal_36 ?_
      exact Jt1 false (by exact (Eq.trans eTt1 (Eq.trans (if_neg h1) (if_pos h2))))
    · skip
      refine wi_aload_n hC 0 d_MO_isUnnormal_21 rfl rfl ?_
      refine wg_MO_part hC wd_677 d_MO_isUnnormal_22 ?_
      refine wi_iload_n hC 1 d_MO_isUnnormal_25 rfl rfl ?_
      refine wa_ld40 hC hp d_MO_isUnnormal_26 ?_
      refine wi_lconst hC 0 (by decide) d_MO_isUnnormal_27 ?_
      refine wi_lcmp_le hC 36 d_MO_isUnnormal_28 d_MO_isUnnormal_29 (by decide) (fun h3 => ?_) (fun h3 => ?_)
      · skip
        refine wi_iconst hC 0 (by decide) d_MO_isUnnormal_36 ?_
        exact Jt1 false (by exact (Eq.trans eTt1 (Eq.trans (if_neg h1) (Eq.trans (if_neg h2) (if_pos h3)))))
      · skip
        refine wi_iconst hC 1 (by decide) d_MO_isUnnormal_32 ?_
        refine wi_goto hC 37 d_MO_isUnnormal_33 (by decide) ?_
        exact Jt1 true (by exact (Eq.trans eTt1 (Eq.trans (if_neg h1) (Eq.trans (if_neg h2) (if_neg h3)))))
theorem k_MO_isUnnormal {p : Program} {l : Launch} {e : Env} {R : Room} {s : State} {m : MethodId} {args : Array Value} {below : List Frame} {meth : Method} {c : Code} {Q : State → Prop} {E : Ev} {nL pc index : Nat} {lv : List (Nat × Value)} {rest : List Value} {cc : ByteArray} {own : String} {σ τ : St} {q : Int64} {a1 : Int32} (hC : Cx p s m args c cc nL own E)  (hp : vp_in a1 2) (hl : Cond.methodLink own index y_MO_isUnnormal ∈ WL) (hR : 0 + 1 ≤ R.frames ∧ 8 + (2 + 11) + 0 ≤ R.locals) (hs8 : (rest.map fun v => v.category).sum ≤ 8) (d : decode cc pc = .ok (.invokevirtual index, 3)) (k : WS p l e R s m args below meth c Q E nL (pc + 3) lv ((.int (bI (f_MO_isUnnormal τ a1))) :: rest) (σ, τ, q)) : WS p l e R s m args below meth c Q E nL pc lv (.int a1 :: .ref 35 :: rest) (σ, τ, q) := by
  exact wi_callV hC (n := 1) (vs := [.int a1]) (rest := rest) 35 11 (by decide) rfl rfl rfl (c_MO_isUnnormal l E σ τ q a1 hp) (by decide +kernel) wd_702 wd_662 wd_703 wd_704 ⟨rfl, rfl⟩ rfl rfl hl hR hs8 d k
set_option maxRecDepth 100000 in
set_option maxHeartbeats 400000 in
theorem c_MO_isEndless (l : Launch) (E : Ev) (σ τ : St) (q : Int64) (a1 : Int32) (hp : vp_in a1 2) : MF l y_MO_isEndless prog_14_method_10_code 2 (some .boolean) { frames := 0, cells := 0, slots := 0, locals := 0 } E [.ref 35, .int a1] (σ, τ, q) (some (.int (bI (f_MO_isEndless τ a1)))) (σ, τ, q) := by
  refine MF_intro (lv0 := [(0, .ref 35), (1, .int a1)]) (by decide) wd_705 (Nat.le_of_ble_eq_true rfl) rfl ?_
  intro p e s m args below meth c Q hC hr hk hQ
  replace hC : Cx p s m args c prog_14_method_10_code 2 "PartnerStackModel$RealOperationsModel" E := hC
  refine wi_aload_n hC 0 d_MO_isEndless_0 rfl rfl ?_
  refine wg_MO_power hC wd_675 d_MO_isEndless_1 ?_
  refine wi_iload_n hC 1 d_MO_isEndless_4 rfl rfl ?_
  refine wa_ld39 hC hp d_MO_isEndless_5 ?_
  refine wi_sipush hC 32767 (by decide) d_MO_isEndless_6 ?_
  obtain ⟨Tt1, eTt1⟩ : ∃ y : Bool, y = (
          if gI τ 107 (jat a1) = 32767 then
            if jlshl (gJ τ 108 (jat a1)) 1 = 0 then
              true
            else
              false
          else
            false) := ⟨_, rfl⟩
  have Jt1 : ∀ (t1 : Bool), Tt1 = t1 → WS p l e { frames := 0, cells := 0, slots := 0, locals := 0 } s m args below meth c Q E 2 30 [(0, .ref 35), (1, .int a1)] [.int (bI t1)] (σ, τ, q) := by
    intro t1  e_t1
    rw [eTt1] at e_t1
    have hf : f_MO_isEndless τ a1 = t1 := by subst e_t1; exact rfl
    exact wi_zret hC hr hk d_MO_isEndless_30 rfl (congrArg (fun z => some (Value.int (bI z))) hf) rfl hQ
  refine wi_icmp_ne hC 29 d_MO_isEndless_9 (by decide) (fun h1 => ?_) (fun h1 => ?_)
  · skip
    refine wi_iconst hC 0 (by decide) d_MO_isEndless_29 ?_
    exact Jt1 false (by exact (Eq.trans eTt1 (if_neg h1)))
  · skip
    refine wi_aload_n hC 0 d_MO_isEndless_12 rfl rfl ?_
    refine wg_MO_part hC wd_677 d_MO_isEndless_13 ?_
    refine wi_iload_n hC 1 d_MO_isEndless_16 rfl rfl ?_
    refine wa_ld40 hC hp d_MO_isEndless_17 ?_
    refine wi_iconst hC 1 (by decide) d_MO_isEndless_18 ?_
    refine wi_lshl hC d_MO_isEndless_19 ?_
    refine wi_lconst hC 0 (by decide) d_MO_isEndless_20 ?_
    refine wi_lcmp_ne hC 29 d_MO_isEndless_21 d_MO_isEndless_22 (by decide) (fun h2 => ?_) (fun h2 => ?_)
    · skip
      refine wi_iconst hC 0 (by decide) d_MO_isEndless_29 ?_
      exact Jt1 false (by exact (Eq.trans eTt1 (Eq.trans (if_pos h1) (if_neg h2))))
    · skip
      refine wi_iconst hC 1 (by decide) d_MO_isEndless_25 ?_
      refine wi_goto hC 30 d_MO_isEndless_26 (by decide) ?_
      exact Jt1 true (by exact (Eq.trans eTt1 (Eq.trans (if_pos h1) (if_pos h2))))
theorem k_MO_isEndless {p : Program} {l : Launch} {e : Env} {R : Room} {s : State} {m : MethodId} {args : Array Value} {below : List Frame} {meth : Method} {c : Code} {Q : State → Prop} {E : Ev} {nL pc index : Nat} {lv : List (Nat × Value)} {rest : List Value} {cc : ByteArray} {own : String} {σ τ : St} {q : Int64} {a1 : Int32} (hC : Cx p s m args c cc nL own E)  (hp : vp_in a1 2) (hl : Cond.methodLink own index y_MO_isEndless ∈ WL) (hR : 0 + 1 ≤ R.frames ∧ 8 + (2 + 11) + 0 ≤ R.locals) (hs8 : (rest.map fun v => v.category).sum ≤ 8) (d : decode cc pc = .ok (.invokevirtual index, 3)) (k : WS p l e R s m args below meth c Q E nL (pc + 3) lv ((.int (bI (f_MO_isEndless τ a1))) :: rest) (σ, τ, q)) : WS p l e R s m args below meth c Q E nL pc lv (.int a1 :: .ref 35 :: rest) (σ, τ, q) := by
  exact wi_callV hC (n := 1) (vs := [.int a1]) (rest := rest) 35 11 (by decide) rfl rfl rfl (c_MO_isEndless l E σ τ q a1 hp) (by decide +kernel) wd_705 wd_662 wd_706 wd_707 ⟨rfl, rfl⟩ rfl rfl hl hR hs8 d k
set_option maxRecDepth 100000 in
set_option maxHeartbeats 400000 in
theorem c_MO_isWrong (l : Launch) (E : Ev) (σ τ : St) (q : Int64) (a1 : Int32)  : MF l y_MO_isWrong prog_14_method_34_code 3 (some .boolean) { frames := 1, cells := 0, slots := 0, locals := 21 } E [.ref 35, .int a1] (σ, τ, q) (some (.int (bI (f_MO_isWrong τ a1)))) (σ, τ, q) := by
  refine MF_intro (lv0 := [(0, .ref 35), (1, .int a1)]) (by decide) wd_711 (Nat.le_of_ble_eq_true rfl) rfl ?_
  intro p e s m args below meth c Q hC hr hk hQ
  replace hC : Cx p s m args c prog_14_method_34_code 3 "PartnerStackModel$RealOperationsModel" E := hC
  refine wi_aload_n hC 0 d_MO_isWrong_0 rfl rfl ?_
  refine wg_MO_word hC wd_660 d_MO_isWrong_1 ?_
  refine wi_sipush hC 4096 (by decide) d_MO_isWrong_4 ?_
  refine wi_iand hC d_MO_isWrong_7 ?_
  obtain ⟨Tt1, eTt1⟩ : ∃ y : Bool, y = (
          if (gI τ 16 35) &&& 4096 = 0 then
            true
          else
            false) := ⟨_, rfl⟩
  have Jt1 : ∀ (t1 : Bool), Tt1 = t1 → WS p l e { frames := 1, cells := 0, slots := 0, locals := 21 } s m args below meth c Q E 3 16 [(0, .ref 35), (1, .int a1)] [.int (bI t1)] (σ, τ, q) := by
    intro t1  e_t1
    rw [eTt1] at e_t1
    refine wi_istore_n hC [(2, .int (bI t1)), (0, .ref 35), (1, .int a1)] d_MO_isWrong_16 rfl (by decide) rfl ?_
    refine wi_iload_n hC 2 d_MO_isWrong_17 rfl rfl ?_
    refine wi_bipush hC 6 (by decide) d_MO_isWrong_18 ?_
    refine wi_icmp_ne hC 66 d_MO_isWrong_20 (by decide) (fun h2 => ?_) (fun h2 => ?_)
    · skip
      refine wi_iload_n hC 2 d_MO_isWrong_66 rfl rfl ?_
      refine wi_iconst hC 3 (by decide) d_MO_isWrong_67 ?_
      refine wi_icmp_ge hC 112 d_MO_isWrong_68 (by decide) (fun h3 => ?_) (fun h3 => ?_)
      · skip
        refine wi_iload_n hC 2 d_MO_isWrong_112 rfl rfl ?_
        refine wi_iconst hC 3 (by decide) d_MO_isWrong_113 ?_
        refine wi_icmp_ne hC 155 d_MO_isWrong_114 (by decide) (fun h4 => ?_) (fun h4 => ?_)
        · skip
          refine wi_aload_n hC 1 d_MO_isWrong_155 rfl rfl ?_
          refine wi_iconst hC 0 (by decide) d_MO_isWrong_156 ?_
          refine k_MO_isEndless hC (by unfold vp_in; decide) wd_708 (by decide) (Nat.le_of_ble_eq_true rfl) d_MO_isWrong_157 ?_
          obtain ⟨Tt2, eTt2⟩ : ∃ y : Bool, y = (
                  if f_MO_isEndless τ 0 = true then
                    if f_MO_isEndless τ 1 = true then
                      true
                    else
                      f_MO_isWrong_b171 τ
                  else
                    f_MO_isWrong_b171 τ) := ⟨_, rfl⟩
          have Jt2 : ∀ (t2 : Bool), Tt2 = t2 → WS p l e { frames := 1, cells := 0, slots := 0, locals := 21 } s m args below meth c Q E 3 200 [(2, .int (bI t1)), (0, .ref 35), (1, .int a1)] [.int (bI t2)] (σ, τ, q) := by
            intro t2  e_t2
            rw [eTt2] at e_t2
            have hf : f_MO_isWrong τ a1 = t2 := by subst e_t2; subst e_t1; exact (Eq.trans (if_neg h2) (Eq.trans (if_pos h3) (if_neg h4)))
            exact wi_zret hC hr hk d_MO_isWrong_200 rfl (congrArg (fun z => some (Value.int (bI z))) hf) rfl hQ
          have B1 : Tt2 = f_MO_isWrong_b171 τ → WS p l e { frames := 1, cells := 0, slots := 0, locals := 21 } s m args below meth c Q E 3 171 [(2, .int (bI t1)), (0, .ref 35), (1, .int a1)] [] (σ, τ, q) := by
            intro hB1
            refine wi_aload_n hC 1 d_MO_isWrong_171 rfl rfl ?_
            refine wi_iconst hC 0 (by decide) d_MO_isWrong_172 ?_
            refine k_MO_isNothing hC (by unfold vp_in; decide) wd_709 (by decide) (Nat.le_of_ble_eq_true rfl) d_MO_isWrong_173 ?_
            have B2 : Tt2 = f_MO_isWrong_b187 τ → WS p l e { frames := 1, cells := 0, slots := 0, locals := 21 } s m args below meth c Q E 3 187 [(2, .int (bI t1)), (0, .ref 35), (1, .int a1)] [] (σ, τ, q) := by
              intro hB2
              refine wi_aload_n hC 1 d_MO_isWrong_187 rfl rfl ?_
              refine wi_iconst hC 1 (by decide) d_MO_isWrong_188 ?_
              refine k_MO_isUnnormal hC (by unfold vp_in; decide) wd_710 (by decide) (Nat.le_of_ble_eq_true rfl) d_MO_isWrong_189 ?_
              refine wi_z_eq (b := (f_MO_isUnnormal τ 1)) hC 199 d_MO_isWrong_192 (by decide) (fun h9 => ?_) (fun h9 => ?_)
              · skip
                refine wi_iconst hC 0 (by decide) d_MO_isWrong_199 ?_
                exact Jt2 false (by exact (Eq.trans hB2 (if_neg h9)))
              · skip
                refine wi_iconst hC 1 (by decide) d_MO_isWrong_195 ?_
                refine wi_goto hC 200 d_MO_isWrong_196 (by decide) ?_
                exact Jt2 true (by exact (Eq.trans hB2 (if_pos h9)))
            refine wi_z_eq (b := (f_MO_isNothing τ 0)) hC 187 d_MO_isWrong_176 (by decide) (fun h7 => ?_) (fun h7 => ?_)
            · skip
              exact B2   (by exact (Eq.trans hB1 (if_neg h7)))
            · skip
              refine wi_aload_n hC 1 d_MO_isWrong_179 rfl rfl ?_
              refine wi_iconst hC 1 (by decide) d_MO_isWrong_180 ?_
              refine k_MO_isNothing hC (by unfold vp_in; decide) wd_709 (by decide) (Nat.le_of_ble_eq_true rfl) d_MO_isWrong_181 ?_
              refine wi_z_ne (b := (f_MO_isNothing τ 1)) hC 195 d_MO_isWrong_184 (by decide) (fun h8 => ?_) (fun h8 => ?_)
              · skip
                refine wi_iconst hC 1 (by decide) d_MO_isWrong_195 ?_
                refine wi_goto hC 200 d_MO_isWrong_196 (by decide) ?_
                exact Jt2 true (by exact (Eq.trans hB1 (Eq.trans (if_pos h7) (if_pos h8))))
              · skip
                exact B2   (by exact (Eq.trans hB1 (Eq.trans (if_pos h7) (if_neg h8))))
          refine wi_z_eq (b := (f_MO_isEndless τ 0)) hC 171 d_MO_isWrong_160 (by decide) (fun h5 => ?_) (fun h5 => ?_)
          · skip
            exact B1   (by exact (Eq.trans eTt2 (if_neg h5)))
          · skip
            refine wi_aload_n hC 1 d_MO_isWrong_163 rfl rfl ?_
            refine wi_iconst hC 1 (by decide) d_MO_isWrong_164 ?_
            refine k_MO_isEndless hC (by unfold vp_in; decide) wd_708 (by decide) (Nat.le_of_ble_eq_true rfl) d_MO_isWrong_165 ?_
            refine wi_z_ne (b := (f_MO_isEndless τ 1)) hC 195 d_MO_isWrong_168 (by decide) (fun h6 => ?_) (fun h6 => ?_)
            · skip
              refine wi_iconst hC 1 (by decide) d_MO_isWrong_195 ?_
              refine wi_goto hC 200 d_MO_isWrong_196 (by decide) ?_
              exact Jt2 true (by exact (Eq.trans eTt2 (Eq.trans (if_pos h5) (if_pos h6))))
            · skip
              exact B1   (by exact (Eq.trans eTt2 (Eq.trans (if_pos h5) (if_neg h6))))
        · skip
          refine wi_aload_n hC 1 d_MO_isWrong_117 rfl rfl ?_
          refine wi_iconst hC 0 (by decide) d_MO_isWrong_118 ?_
          refine k_MO_isEndless hC (by unfold vp_in; decide) wd_708 (by decide) (Nat.le_of_ble_eq_true rfl) d_MO_isWrong_119 ?_
          obtain ⟨Tt3, eTt3⟩ : ∃ y : Bool, y = (
                  if f_MO_isEndless τ 0 = true then
                    if f_MO_isNothing τ 1 = true then
                      true
                    else
                      f_MO_isWrong_b133 τ
                  else
                    f_MO_isWrong_b133 τ) := ⟨_, rfl⟩
          have Jt3 : ∀ (t3 : Bool), Tt3 = t3 → WS p l e { frames := 1, cells := 0, slots := 0, locals := 21 } s m args below meth c Q E 3 154 [(2, .int (bI t1)), (0, .ref 35), (1, .int a1)] [.int (bI t3)] (σ, τ, q) := by
            intro t3  e_t3
            rw [eTt3] at e_t3
            have hf : f_MO_isWrong τ a1 = t3 := by subst e_t3; subst e_t1; exact (Eq.trans (if_neg h2) (Eq.trans (if_pos h3) (if_pos h4)))
            exact wi_zret hC hr hk d_MO_isWrong_154 rfl (congrArg (fun z => some (Value.int (bI z))) hf) rfl hQ
          have B3 : Tt3 = f_MO_isWrong_b133 τ → WS p l e { frames := 1, cells := 0, slots := 0, locals := 21 } s m args below meth c Q E 3 133 [(2, .int (bI t1)), (0, .ref 35), (1, .int a1)] [] (σ, τ, q) := by
            intro hB3
            refine wi_aload_n hC 1 d_MO_isWrong_133 rfl rfl ?_
            refine wi_iconst hC 0 (by decide) d_MO_isWrong_134 ?_
            refine k_MO_isNothing hC (by unfold vp_in; decide) wd_709 (by decide) (Nat.le_of_ble_eq_true rfl) d_MO_isWrong_135 ?_
            refine wi_z_eq (b := (f_MO_isNothing τ 0)) hC 153 d_MO_isWrong_138 (by decide) (fun h12 => ?_) (fun h12 => ?_)
            · skip
              refine wi_iconst hC 0 (by decide) d_MO_isWrong_153 ?_
              exact Jt3 false (by exact (Eq.trans hB3 (if_neg h12)))
            · skip
              refine wi_aload_n hC 1 d_MO_isWrong_141 rfl rfl ?_
              refine wi_iconst hC 1 (by decide) d_MO_isWrong_142 ?_
              refine k_MO_isEndless hC (by unfold vp_in; decide) wd_708 (by decide) (Nat.le_of_ble_eq_true rfl) d_MO_isWrong_143 ?_
              refine wi_z_eq (b := (f_MO_isEndless τ 1)) hC 153 d_MO_isWrong_146 (by decide) (fun h13 => ?_) (fun h13 => ?_)
              · skip
                refine wi_iconst hC 0 (by decide) d_MO_isWrong_153 ?_
                exact Jt3 false (by exact (Eq.trans hB3 (Eq.trans (if_pos h12) (if_neg h13))))
              · skip
                refine wi_iconst hC 1 (by decide) d_MO_isWrong_149 ?_
                refine wi_goto hC 154 d_MO_isWrong_150 (by decide) ?_
                exact Jt3 true (by exact (Eq.trans hB3 (Eq.trans (if_pos h12) (if_pos h13))))
          refine wi_z_eq (b := (f_MO_isEndless τ 0)) hC 133 d_MO_isWrong_122 (by decide) (fun h10 => ?_) (fun h10 => ?_)
          · skip
            exact B3   (by exact (Eq.trans eTt3 (if_neg h10)))
          · skip
            refine wi_aload_n hC 1 d_MO_isWrong_125 rfl rfl ?_
            refine wi_iconst hC 1 (by decide) d_MO_isWrong_126 ?_
            refine k_MO_isNothing hC (by unfold vp_in; decide) wd_709 (by decide) (Nat.le_of_ble_eq_true rfl) d_MO_isWrong_127 ?_
            refine wi_z_ne (b := (f_MO_isNothing τ 1)) hC 149 d_MO_isWrong_130 (by decide) (fun h11 => ?_) (fun h11 => ?_)
            · skip
              refine wi_iconst hC 1 (by decide) d_MO_isWrong_149 ?_
              refine wi_goto hC 154 d_MO_isWrong_150 (by decide) ?_
              exact Jt3 true (by exact (Eq.trans eTt3 (Eq.trans (if_pos h10) (if_pos h11))))
            · skip
              exact B3   (by exact (Eq.trans eTt3 (Eq.trans (if_pos h10) (if_neg h11))))
      · skip
        refine wi_aload_n hC 1 d_MO_isWrong_71 rfl rfl ?_
        refine wi_iconst hC 0 (by decide) d_MO_isWrong_72 ?_
        refine k_MO_isEndless hC (by unfold vp_in; decide) wd_708 (by decide) (Nat.le_of_ble_eq_true rfl) d_MO_isWrong_73 ?_
        obtain ⟨Tt4, eTt4⟩ : ∃ y : Bool, y = (
                if f_MO_isEndless τ 0 = true then
                  if f_MO_isEndless τ 1 = true then
                    if t1 = true then
                      true
                    else
                      if gZ τ 106 (jat 0) = gZ τ 106 (jat 1) then
                        false
                      else
                        true
                  else
                    false
                else
                  false) := ⟨_, rfl⟩
        have Jt4 : ∀ (t4 : Bool), Tt4 = t4 → WS p l e { frames := 1, cells := 0, slots := 0, locals := 21 } s m args below meth c Q E 3 111 [(2, .int (bI t1)), (0, .ref 35), (1, .int a1)] [.int (bI t4)] (σ, τ, q) := by
          intro t4  e_t4
          rw [eTt4] at e_t4
          have hf : f_MO_isWrong τ a1 = t4 := by subst e_t4; subst e_t1; exact (Eq.trans (if_neg h2) (if_neg h3))
          exact wi_zret hC hr hk d_MO_isWrong_111 rfl (congrArg (fun z => some (Value.int (bI z))) hf) rfl hQ
        refine wi_z_eq (b := (f_MO_isEndless τ 0)) hC 110 d_MO_isWrong_76 (by decide) (fun h14 => ?_) (fun h14 => ?_)
        · skip
          refine wi_iconst hC 0 (by decide) d_MO_isWrong_110 ?_
          exact Jt4 false (by exact (Eq.trans eTt4 (if_neg h14)))
        · skip
          refine wi_aload_n hC 1 d_MO_isWrong_79 rfl rfl ?_
          refine wi_iconst hC 1 (by decide) d_MO_isWrong_80 ?_
          refine k_MO_isEndless hC (by unfold vp_in; decide) wd_708 (by decide) (Nat.le_of_ble_eq_true rfl) d_MO_isWrong_81 ?_
          refine wi_z_eq (b := (f_MO_isEndless τ 1)) hC 110 d_MO_isWrong_84 (by decide) (fun h15 => ?_) (fun h15 => ?_)
          · skip
            refine wi_iconst hC 0 (by decide) d_MO_isWrong_110 ?_
            exact Jt4 false (by exact (Eq.trans eTt4 (Eq.trans (if_pos h14) (if_neg h15))))
          · skip
            refine wi_iload_n hC 0 d_MO_isWrong_87 rfl rfl ?_
            refine wi_z_ne (b := t1) hC 106 d_MO_isWrong_88 (by decide) (fun h16 => ?_) (fun h16 => ?_)
            · skip
              refine wi_iconst hC 1 (by decide) d_MO_isWrong_106 ?_
              refine wi_goto hC 111 d_MO_isWrong_107 (by decide) ?_
              exact Jt4 true (by exact (Eq.trans eTt4 (Eq.trans (if_pos h14) (Eq.trans (if_pos h15) (if_pos h16)))))
            · skip
              refine wi_aload_n hC 1 d_MO_isWrong_91 rfl rfl ?_
              refine wg_MO_minus hC wd_674 d_MO_isWrong_92 ?_
              refine wi_iconst hC 0 (by decide) d_MO_isWrong_95 ?_
              refine wa_ld38 hC (by unfold vp_in; decide) d_MO_isWrong_96 ?_
              refine wi_aload_n hC 1 d_MO_isWrong_97 rfl rfl ?_
              refine wg_MO_minus hC wd_674 d_MO_isWrong_98 ?_
              refine wi_iconst hC 1 (by decide) d_MO_isWrong_101 ?_
              refine wa_ld38 hC (by unfold vp_in; decide) d_MO_isWrong_102 ?_
              refine wi_zc_eq (a := (gZ τ 106 (jat 0))) (b := (gZ τ 106 (jat 1))) hC 110 d_MO_isWrong_103 (by decide) (fun h17 => ?_) (fun h17 => ?_)
              · skip
                refine wi_iconst hC 0 (by decide) d_MO_isWrong_110 ?_
                exact Jt4 false (by exact (Eq.trans eTt4 (Eq.trans (if_pos h14) (Eq.trans (if_pos h15) (Eq.trans (if_neg h16) (if_pos h17))))))
              · skip
                refine wi_iconst hC 1 (by decide) d_MO_isWrong_106 ?_
                refine wi_goto hC 111 d_MO_isWrong_107 (by decide) ?_
                exact Jt4 true (by exact (Eq.trans eTt4 (Eq.trans (if_pos h14) (Eq.trans (if_pos h15) (Eq.trans (if_neg h16) (if_neg h17))))))
    · skip
      refine wi_aload_n hC 1 d_MO_isWrong_23 rfl rfl ?_
      refine wg_MO_minus hC wd_674 d_MO_isWrong_24 ?_
      refine wi_iconst hC 0 (by decide) d_MO_isWrong_27 ?_
      refine wa_ld38 hC (by unfold vp_in; decide) d_MO_isWrong_28 ?_
      obtain ⟨Tt5, eTt5⟩ : ∃ y : Bool, y = (
              if gZ τ 106 (jat 0) = true then
                if f_MO_isNothing τ 0 = true then
                  f_MO_isWrong_b40 τ t1
                else
                  true
              else
                f_MO_isWrong_b40 τ t1) := ⟨_, rfl⟩
      have Jt5 : ∀ (t5 : Bool), Tt5 = t5 → WS p l e { frames := 1, cells := 0, slots := 0, locals := 21 } s m args below meth c Q E 3 65 [(2, .int (bI t1)), (0, .ref 35), (1, .int a1)] [.int (bI t5)] (σ, τ, q) := by
        intro t5  e_t5
        rw [eTt5] at e_t5
        have hf : f_MO_isWrong τ a1 = t5 := by subst e_t5; subst e_t1; exact (if_pos h2)
        exact wi_zret hC hr hk d_MO_isWrong_65 rfl (congrArg (fun z => some (Value.int (bI z))) hf) rfl hQ
      have B4 : Tt5 = f_MO_isWrong_b40 τ t1 → WS p l e { frames := 1, cells := 0, slots := 0, locals := 21 } s m args below meth c Q E 3 40 [(2, .int (bI t1)), (0, .ref 35), (1, .int a1)] [] (σ, τ, q) := by
        intro hB4
        refine wi_aload_n hC 1 d_MO_isWrong_40 rfl rfl ?_
        refine wi_iconst hC 0 (by decide) d_MO_isWrong_41 ?_
        refine k_MO_isUnnormal hC (by unfold vp_in; decide) wd_710 (by decide) (Nat.le_of_ble_eq_true rfl) d_MO_isWrong_42 ?_
        refine wi_z_ne (b := (f_MO_isUnnormal τ 0)) hC 60 d_MO_isWrong_45 (by decide) (fun h20 => ?_) (fun h20 => ?_)
        · skip
          refine wi_iconst hC 1 (by decide) d_MO_isWrong_60 ?_
          refine wi_goto hC 65 d_MO_isWrong_61 (by decide) ?_
          exact Jt5 true (by exact (Eq.trans hB4 (if_pos h20)))
        · skip
          refine wi_aload_n hC 1 d_MO_isWrong_48 rfl rfl ?_
          refine wi_iconst hC 0 (by decide) d_MO_isWrong_49 ?_
          refine k_MO_isEndless hC (by unfold vp_in; decide) wd_708 (by decide) (Nat.le_of_ble_eq_true rfl) d_MO_isWrong_50 ?_
          refine wi_z_eq (b := (f_MO_isEndless τ 0)) hC 64 d_MO_isWrong_53 (by decide) (fun h21 => ?_) (fun h21 => ?_)
          · skip
            refine wi_iconst hC 0 (by decide) d_MO_isWrong_64 ?_
            exact Jt5 false (by exact (Eq.trans hB4 (Eq.trans (if_neg h20) (if_neg h21))))
          · skip
            refine wi_iload_n hC 0 d_MO_isWrong_56 rfl rfl ?_
            refine wi_z_eq (b := t1) hC 64 d_MO_isWrong_57 (by decide) (fun h22 => ?_) (fun h22 => ?_)
            · skip
              refine wi_iconst hC 0 (by decide) d_MO_isWrong_64 ?_
              exact Jt5 false (by exact (Eq.trans hB4 (Eq.trans (if_neg h20) (Eq.trans (if_pos h21) (if_neg h22)))))
            · skip
              refine wi_iconst hC 1 (by decide) d_MO_isWrong_60 ?_
              refine wi_goto hC 65 d_MO_isWrong_61 (by decide) ?_
              exact Jt5 true (by exact (Eq.trans hB4 (Eq.trans (if_neg h20) (Eq.trans (if_pos h21) (if_pos h22)))))
      refine wi_z_eq (b := (gZ τ 106 (jat 0))) hC 40 d_MO_isWrong_29 (by decide) (fun h18 => ?_) (fun h18 => ?_)
      · skip
        exact B4   (by exact (Eq.trans eTt5 (if_neg h18)))
      · skip
        refine wi_aload_n hC 1 d_MO_isWrong_32 rfl rfl ?_
        refine wi_iconst hC 0 (by decide) d_MO_isWrong_33 ?_
        refine k_MO_isNothing hC (by unfold vp_in; decide) wd_709 (by decide) (Nat.le_of_ble_eq_true rfl) d_MO_isWrong_34 ?_
        refine wi_z_eq (b := (f_MO_isNothing τ 0)) hC 60 d_MO_isWrong_37 (by decide) (fun h19 => ?_) (fun h19 => ?_)
        · skip
          refine wi_iconst hC 1 (by decide) d_MO_isWrong_60 ?_
          refine wi_goto hC 65 d_MO_isWrong_61 (by decide) ?_
          exact Jt5 true (by exact (Eq.trans eTt5 (Eq.trans (if_pos h18) (if_neg h19))))
        · skip
          exact B4   (by exact (Eq.trans eTt5 (Eq.trans (if_pos h18) (if_pos h19))))
  refine wi_if_ne hC 15 d_MO_isWrong_8 (by decide) (fun h1 => ?_) (fun h1 => ?_)
  · skip
    refine wi_iconst hC 0 (by decide) d_MO_isWrong_15 ?_
    exact Jt1 false (by exact (Eq.trans eTt1 (if_neg h1)))
  · skip
    refine wi_iconst hC 1 (by decide) d_MO_isWrong_11 ?_
    refine wi_goto hC 16 d_MO_isWrong_12 (by decide) ?_
    exact Jt1 true (by exact (Eq.trans eTt1 (if_pos h1)))
theorem k_MO_isWrong {p : Program} {l : Launch} {e : Env} {R : Room} {s : State} {m : MethodId} {args : Array Value} {below : List Frame} {meth : Method} {c : Code} {Q : State → Prop} {E : Ev} {nL pc index : Nat} {lv : List (Nat × Value)} {rest : List Value} {cc : ByteArray} {own : String} {σ τ : St} {q : Int64} {a1 : Int32} (hC : Cx p s m args c cc nL own E)   (hl : Cond.methodLink own index y_MO_isWrong ∈ WL) (hR : 1 + 1 ≤ R.frames ∧ 8 + (3 + 11) + 21 ≤ R.locals) (hs8 : (rest.map fun v => v.category).sum ≤ 8) (d : decode cc pc = .ok (.invokevirtual index, 3)) (k : WS p l e R s m args below meth c Q E nL (pc + 3) lv ((.int (bI (f_MO_isWrong τ a1))) :: rest) (σ, τ, q)) : WS p l e R s m args below meth c Q E nL pc lv (.int a1 :: .ref 35 :: rest) (σ, τ, q) := by
  exact wi_callV hC (n := 1) (vs := [.int a1]) (rest := rest) 35 11 (by decide) rfl rfl rfl (c_MO_isWrong l E σ τ q a1 ) (by decide +kernel) wd_711 wd_662 wd_712 wd_713 ⟨rfl, rfl⟩ rfl rfl hl hR hs8 d k
set_option maxRecDepth 100000 in
set_option maxHeartbeats 400000 in
theorem c_MO_answer (l : Launch) (E : Ev) (σ τ : St) (q : Int64) (a1 : Bool) (a2 : Int32) (a3 : Int64)  : MF l y_MO_answer prog_14_method_17_code 5 none { frames := 0, cells := 0, slots := 0, locals := 0 } E [.ref 35, .int (bI a1), .int a2, .long a3] (σ, τ, q) none (σ, (f_MO_answer τ a1 a2 a3), q) := by
  refine MF_intro (lv0 := [(0, .ref 35), (1, .int (bI a1)), (2, .int a2), (3, .long a3)]) (by decide) wd_714 (Nat.le_of_ble_eq_true rfl) rfl ?_
  intro p e s m args below meth c Q hC hr hk hQ
  replace hC : Cx p s m args c prog_14_method_17_code 5 "PartnerStackModel$RealOperationsModel" E := hC
  refine wi_aload_n hC 0 d_MO_answer_0 rfl rfl ?_
  refine wi_iload_n hC 1 d_MO_answer_1 rfl rfl ?_
  obtain ⟨Tt1, eTt1⟩ : ∃ y : Int32, y = (
          if a1 = true then
            32768
          else
            0) := ⟨_, rfl⟩
  have Jt1 : ∀ (t1 : Int32), Tt1 = t1 → WS p l e { frames := 0, cells := 0, slots := 0, locals := 0 } s m args below meth c Q E 5 11 [(0, .ref 35), (1, .int (bI a1)), (2, .int a2), (3, .long a3)] [.int t1, .ref 35] (σ, τ, q) := by
    intro t1  e_t1
    rw [eTt1] at e_t1
    refine wi_iload_n hC 2 d_MO_answer_11 rfl rfl ?_
    refine wi_iadd hC d_MO_answer_12 ?_
    refine wp_MO_topOf hC wd_694 d_MO_answer_13 ?_
    refine wi_nmM (fun s1 e_s1 => ?_)
    refine wi_aload_n hC 0 d_MO_answer_16 rfl rfl ?_
    refine wi_lload_n hC 3 d_MO_answer_17 rfl rfl ?_
    refine wp_MO_fractionOf hC wd_695 d_MO_answer_18 ?_
    refine wi_nmM (fun s2 e_s2 => ?_)
    have hf : f_MO_answer τ a1 a2 a3 = s2 := by subst e_s2; subst e_s1; subst e_t1; exact rfl
    exact wi_vret hC hr hk d_MO_answer_21 rfl (congrArg (fun z => (σ, z, q)) hf).symm hQ
  refine wi_z_eq (b := a1) hC 10 d_MO_answer_2 (by decide) (fun h1 => ?_) (fun h1 => ?_)
  · skip
    refine wi_iconst hC 0 (by decide) d_MO_answer_10 ?_
    exact Jt1 0 (by exact (Eq.trans eTt1 (if_neg h1)))
  · skip
    refine wi_ldc hC wd_676 d_MO_answer_5 ?_
    refine wi_goto hC 11 d_MO_answer_7 (by decide) ?_
    exact Jt1 32768 (by exact (Eq.trans eTt1 (if_pos h1)))
theorem k_MO_answer {p : Program} {l : Launch} {e : Env} {R : Room} {s : State} {m : MethodId} {args : Array Value} {below : List Frame} {meth : Method} {c : Code} {Q : State → Prop} {E : Ev} {nL pc index : Nat} {lv : List (Nat × Value)} {rest : List Value} {cc : ByteArray} {own : String} {σ τ : St} {q : Int64} {a2 : Int32} {a3 : Int64} (hC : Cx p s m args c cc nL own E) {x_a1 : Int32} (a1 : Bool) (hx_a1 : x_a1 = bI a1)  (hl : Cond.methodLink own index y_MO_answer ∈ WL) (hR : 0 + 1 ≤ R.frames ∧ 8 + (5 + 11) + 0 ≤ R.locals) (hs8 : (rest.map fun v => v.category).sum ≤ 8) (d : decode cc pc = .ok (.invokevirtual index, 3)) (k : WS p l e R s m args below meth c Q E nL (pc + 3) lv rest (σ, (f_MO_answer τ a1 a2 a3), q)) : WS p l e R s m args below meth c Q E nL pc lv (.long a3 :: .int a2 :: .int x_a1 :: .ref 35 :: rest) (σ, τ, q) := by
  subst hx_a1
  exact wi_callV hC (n := 3) (vs := [.int (bI a1), .int a2, .long a3]) (rest := rest) 35 11 (by decide) rfl rfl rfl (c_MO_answer l E σ τ q a1 a2 a3 ) (by decide +kernel) wd_714 wd_662 wd_715 wd_716 ⟨rfl, rfl⟩ rfl rfl hl hR hs8 d k
set_option maxRecDepth 100000 in
set_option maxHeartbeats 400000 in
theorem c_MO_isDenormal (l : Launch) (E : Ev) (σ τ : St) (q : Int64) (a1 : Int32) (hp : vp_in a1 2) : MF l y_MO_isDenormal prog_14_method_12_code 2 (some .boolean) { frames := 0, cells := 0, slots := 0, locals := 0 } E [.ref 35, .int a1] (σ, τ, q) (some (.int (bI (f_MO_isDenormal τ a1)))) (σ, τ, q) := by
  refine MF_intro (lv0 := [(0, .ref 35), (1, .int a1)]) (by decide) wd_717 (Nat.le_of_ble_eq_true rfl) rfl ?_
  intro p e s m args below meth c Q hC hr hk hQ
  replace hC : Cx p s m args c prog_14_method_12_code 2 "PartnerStackModel$RealOperationsModel" E := hC
  refine wi_aload_n hC 0 d_MO_isDenormal_0 rfl rfl ?_
  refine wg_MO_power hC wd_675 d_MO_isDenormal_1 ?_
  refine wi_iload_n hC 1 d_MO_isDenormal_4 rfl rfl ?_
  refine wa_ld39 hC hp d_MO_isDenormal_5 ?_
  obtain ⟨Tt1, eTt1⟩ : ∃ y : Bool, y = (
          if gI τ 107 (jat a1) = 0 then
            if gJ τ 108 (jat a1) = 0 then
              false
            else
              true
          else
            false) := ⟨_, rfl⟩
  have Jt1 : ∀ (t1 : Bool), Tt1 = t1 → WS p l e { frames := 0, cells := 0, slots := 0, locals := 0 } s m args below meth c Q E 2 25 [(0, .ref 35), (1, .int a1)] [.int (bI t1)] (σ, τ, q) := by
    intro t1  e_t1
    rw [eTt1] at e_t1
    have hf : f_MO_isDenormal τ a1 = t1 := by subst e_t1; exact rfl
    exact wi_zret hC hr hk d_MO_isDenormal_25 rfl (congrArg (fun z => some (Value.int (bI z))) hf) rfl hQ
  refine wi_if_ne hC 24 d_MO_isDenormal_6 (by decide) (fun h1 => ?_) (fun h1 => ?_)
  · skip
    refine wi_iconst hC 0 (by decide) d_MO_isDenormal_24 ?_
    exact Jt1 false (by exact (Eq.trans eTt1 (if_neg h1)))
  · skip
    refine wi_aload_n hC 0 d_MO_isDenormal_9 rfl rfl ?_
    refine wg_MO_part hC wd_677 d_MO_isDenormal_10 ?_
    refine wi_iload_n hC 1 d_MO_isDenormal_13 rfl rfl ?_
    refine wa_ld40 hC hp d_MO_isDenormal_14 ?_
    refine wi_lconst hC 0 (by decide) d_MO_isDenormal_15 ?_
    refine wi_lcmp_eq hC 24 d_MO_isDenormal_16 d_MO_isDenormal_17 (by decide) (fun h2 => ?_) (fun h2 => ?_)
    · skip
      refine wi_iconst hC 0 (by decide) d_MO_isDenormal_24 ?_
      exact Jt1 false (by exact (Eq.trans eTt1 (Eq.trans (if_pos h1) (if_pos h2))))
    · skip
      refine wi_iconst hC 1 (by decide) d_MO_isDenormal_20 ?_
      refine wi_goto hC 25 d_MO_isDenormal_21 (by decide) ?_
      exact Jt1 true (by exact (Eq.trans eTt1 (Eq.trans (if_pos h1) (if_neg h2))))
theorem k_MO_isDenormal {p : Program} {l : Launch} {e : Env} {R : Room} {s : State} {m : MethodId} {args : Array Value} {below : List Frame} {meth : Method} {c : Code} {Q : State → Prop} {E : Ev} {nL pc index : Nat} {lv : List (Nat × Value)} {rest : List Value} {cc : ByteArray} {own : String} {σ τ : St} {q : Int64} {a1 : Int32} (hC : Cx p s m args c cc nL own E)  (hp : vp_in a1 2) (hl : Cond.methodLink own index y_MO_isDenormal ∈ WL) (hR : 0 + 1 ≤ R.frames ∧ 8 + (2 + 11) + 0 ≤ R.locals) (hs8 : (rest.map fun v => v.category).sum ≤ 8) (d : decode cc pc = .ok (.invokevirtual index, 3)) (k : WS p l e R s m args below meth c Q E nL (pc + 3) lv ((.int (bI (f_MO_isDenormal τ a1))) :: rest) (σ, τ, q)) : WS p l e R s m args below meth c Q E nL pc lv (.int a1 :: .ref 35 :: rest) (σ, τ, q) := by
  exact wi_callV hC (n := 1) (vs := [.int a1]) (rest := rest) 35 11 (by decide) rfl rfl rfl (c_MO_isDenormal l E σ τ q a1 hp) (by decide +kernel) wd_717 wd_662 wd_718 wd_719 ⟨rfl, rfl⟩ rfl rfl hl hR hs8 d k
set_option maxRecDepth 100000 in
set_option maxHeartbeats 400000 in
theorem c_MO_unitOf (l : Launch) (E : Ev) (σ τ : St) (q : Int64) (a1 : Int32) (hp : vp_in a1 2) : MF l y_MO_unitOf prog_14_method_14_code 2 (some .int) { frames := 0, cells := 0, slots := 0, locals := 0 } E [.ref 35, .int a1] (σ, τ, q) (some (.int (f_MO_unitOf τ a1))) (σ, τ, q) := by
  refine MF_intro (lv0 := [(0, .ref 35), (1, .int a1)]) (by decide) wd_720 (Nat.le_of_ble_eq_true rfl) rfl ?_
  intro p e s m args below meth c Q hC hr hk hQ
  replace hC : Cx p s m args c prog_14_method_14_code 2 "PartnerStackModel$RealOperationsModel" E := hC
  refine wi_aload_n hC 0 d_MO_unitOf_0 rfl rfl ?_
  refine wg_MO_power hC wd_675 d_MO_unitOf_1 ?_
  refine wi_iload_n hC 1 d_MO_unitOf_4 rfl rfl ?_
  refine wa_ld39 hC hp d_MO_unitOf_5 ?_
  obtain ⟨Tt1, eTt1⟩ : ∃ y : Int32, y = (
          if gI τ 107 (jat a1) = 0 then
            1
          else
            gI τ 107 (jat a1)) := ⟨_, rfl⟩
  have Jt1 : ∀ (t1 : Int32), Tt1 = t1 → WS p l e { frames := 0, cells := 0, slots := 0, locals := 0 } s m args below meth c Q E 2 19 [(0, .ref 35), (1, .int a1)] [.int t1] (σ, τ, q) := by
    intro t1  e_t1
    rw [eTt1] at e_t1
    refine wi_sipush hC 16446 (by decide) d_MO_unitOf_19 ?_
    refine wi_isub hC d_MO_unitOf_22 ?_
    have hf : f_MO_unitOf τ a1 = t1 - 16446 := by subst e_t1; exact rfl
    exact wi_iret hC hr hk d_MO_unitOf_23 (congrArg (fun z => some (Value.int z)) hf) rfl hQ
  refine wi_if_ne hC 13 d_MO_unitOf_6 (by decide) (fun h1 => ?_) (fun h1 => ?_)
  · skip
    refine wi_aload_n hC 0 d_MO_unitOf_13 rfl rfl ?_
    refine wg_MO_power hC wd_675 d_MO_unitOf_14 ?_
    refine wi_iload_n hC 1 d_MO_unitOf_17 rfl rfl ?_
    refine wa_ld39 hC hp d_MO_unitOf_18 ?_
    exact Jt1 (gI τ 107 (jat a1)) (by exact (Eq.trans eTt1 (if_neg h1)))
  · skip
    refine wi_iconst hC 1 (by decide) d_MO_unitOf_9 ?_
    refine wi_goto hC 19 d_MO_unitOf_10 (by decide) ?_
    exact Jt1 1 (by exact (Eq.trans eTt1 (if_pos h1)))
theorem k_MO_unitOf {p : Program} {l : Launch} {e : Env} {R : Room} {s : State} {m : MethodId} {args : Array Value} {below : List Frame} {meth : Method} {c : Code} {Q : State → Prop} {E : Ev} {nL pc index : Nat} {lv : List (Nat × Value)} {rest : List Value} {cc : ByteArray} {own : String} {σ τ : St} {q : Int64} {a1 : Int32} (hC : Cx p s m args c cc nL own E)  (hp : vp_in a1 2) (hl : Cond.methodLink own index y_MO_unitOf ∈ WL) (hR : 0 + 1 ≤ R.frames ∧ 8 + (2 + 11) + 0 ≤ R.locals) (hs8 : (rest.map fun v => v.category).sum ≤ 8) (d : decode cc pc = .ok (.invokevirtual index, 3)) (k : WS p l e R s m args below meth c Q E nL (pc + 3) lv ((.int (f_MO_unitOf τ a1)) :: rest) (σ, τ, q)) : WS p l e R s m args below meth c Q E nL pc lv (.int a1 :: .ref 35 :: rest) (σ, τ, q) := by
  exact wi_callV hC (n := 1) (vs := [.int a1]) (rest := rest) 35 11 (by decide) rfl rfl rfl (c_MO_unitOf l E σ τ q a1 hp) (by decide +kernel) wd_720 wd_662 wd_721 wd_722 ⟨rfl, rfl⟩ rfl rfl hl hR hs8 d k
set_option maxRecDepth 100000 in
set_option maxHeartbeats 400000 in
theorem c_MO_isLess (l : Launch) (E : Ev) (σ τ : St) (q : Int64)   : MF l y_MO_isLess prog_14_method_27_code 8 (some .boolean) { frames := 1, cells := 0, slots := 0, locals := 21 } E [.ref 35] (σ, τ, q) (some (.int (bI (f_MO_isLess τ)))) (σ, τ, q) := by
  refine MF_intro (lv0 := [(0, .ref 35)]) (by decide) wd_724 (Nat.le_of_ble_eq_true rfl) rfl ?_
  intro p e s m args below meth c Q hC hr hk hQ
  replace hC : Cx p s m args c prog_14_method_27_code 8 "PartnerStackModel$RealOperationsModel" E := hC
  refine wi_aload_n hC 0 d_MO_isLess_0 rfl rfl ?_
  refine wi_iconst hC 0 (by decide) d_MO_isLess_1 ?_
  refine k_MO_unitOf hC (by unfold vp_in; decide) wd_723 (by decide) (Nat.le_of_ble_eq_true rfl) d_MO_isLess_2 ?_
  refine wi_aload_n hC 0 d_MO_isLess_5 rfl rfl ?_
  refine wi_iconst hC 1 (by decide) d_MO_isLess_6 ?_
  refine k_MO_unitOf hC (by unfold vp_in; decide) wd_723 (by decide) (Nat.le_of_ble_eq_true rfl) d_MO_isLess_7 ?_
  obtain ⟨Tt1, eTt1⟩ : ∃ y : Int32, y = (
          if (f_MO_unitOf τ 1) ≤ (f_MO_unitOf τ 0) then
            f_MO_unitOf τ 1
          else
            f_MO_unitOf τ 0) := ⟨_, rfl⟩
  have Jt1 : ∀ (t1 : Int32), Tt1 = t1 → WS p l e { frames := 1, cells := 0, slots := 0, locals := 21 } s m args below meth c Q E 8 26 [(0, .ref 35)] [.int t1] (σ, τ, q) := by
    intro t1  e_t1
    rw [eTt1] at e_t1
    refine wi_istore_n hC [(1, .int t1), (0, .ref 35)] d_MO_isLess_26 rfl (by decide) rfl ?_
    refine wi_aload_n hC 1 d_MO_isLess_27 rfl rfl ?_
    refine wi_iconst hC 0 (by decide) d_MO_isLess_28 ?_
    refine k_MO_unitOf hC (by unfold vp_in; decide) wd_723 (by decide) (Nat.le_of_ble_eq_true rfl) d_MO_isLess_29 ?_
    refine wi_iload_n hC 0 d_MO_isLess_32 rfl rfl ?_
    refine wi_isub hC d_MO_isLess_33 ?_
    refine wi_nmI (fun v1 e_v1 => ?_)
    refine wi_istore_n hC [(2, .int v1), (1, .int t1), (0, .ref 35)] d_MO_isLess_34 rfl (by decide) rfl ?_
    refine wi_aload_n hC 2 d_MO_isLess_35 rfl rfl ?_
    refine wi_iconst hC 1 (by decide) d_MO_isLess_36 ?_
    refine k_MO_unitOf hC (by unfold vp_in; decide) wd_723 (by decide) (Nat.le_of_ble_eq_true rfl) d_MO_isLess_37 ?_
    refine wi_iload_n hC 1 d_MO_isLess_40 rfl rfl ?_
    refine wi_isub hC d_MO_isLess_41 ?_
    refine wi_nmI (fun v2 e_v2 => ?_)
    refine wi_istore_n hC [(3, .int v2), (2, .int v1), (1, .int t1), (0, .ref 35)] d_MO_isLess_42 rfl (by decide) rfl ?_
    refine wi_iconst hC 0 (by decide) d_MO_isLess_43 ?_
    refine wi_istore hC [(4, .int 0), (3, .int v2), (2, .int v1), (1, .int t1), (0, .ref 35)] d_MO_isLess_44 (by decide) rfl ?_
    refine wi_iconst hC 0 (by decide) d_MO_isLess_46 ?_
    refine wi_istore hC [(5, .int 0), (4, .int 0), (3, .int v2), (2, .int v1), (1, .int t1), (0, .ref 35)] d_MO_isLess_47 (by decide) rfl ?_
    refine wi_loop ((b_MO_isLess_49 τ v1 v2)) (fun t3 => True) (fun t3 => [(5, .int t3.1), (4, .int (bI t3.2)), (3, .int v2), (2, .int v1), (1, .int t1), (0, .ref 35)]) (fun t3 => (σ, τ, q)) 169 ?_ (fun _ _ _ _ => trivial) (upf ((if v2 ≤ v1 then v1 else v2) + 64) 0) (0, false) trivial (up_halt (b := (b_MO_isLess_49 τ v1 v2)) (fun t => t.1) ((if v2 ≤ v1 then v1 else v2) + 64) (st_b_MO_isLess_49 τ v1 v2) (0, false)) ?_
    · intro t3 hi_t3 hc_t3 hx_t3
      refine wi_iload hC 0 d_MO_isLess_49 rfl ?_
      refine wi_iload_n hC 3 d_MO_isLess_51 rfl rfl ?_
      refine wi_iload_n hC 2 d_MO_isLess_52 rfl rfl ?_
      obtain ⟨Tt4, eTt4⟩ : ∃ y : Int32, y = (
              if v2 ≤ v1 then
                v1
              else
                v2) := ⟨_, rfl⟩
      have Jt4 : ∀ (t4 : Int32), Tt4 = t4 → WS p l e { frames := 1, cells := 0, slots := 0, locals := 21 } s m args below meth c Q E 8 61 [(5, .int t3.1), (4, .int (bI t3.2)), (3, .int v2), (2, .int v1), (1, .int t1), (0, .ref 35)] [.int t4, .int t3.1] (σ, τ, q) := by
        intro t4  e_t4
        rw [eTt4] at e_t4
        refine wi_bipush hC 64 (by decide) d_MO_isLess_61 ?_
        refine wi_iadd hC d_MO_isLess_63 ?_
        refine wi_icmp_ge hC 169 d_MO_isLess_64 (by decide) (fun h3 => ?_) (fun h3 => ?_)
        · skip
          exact hx_t3 (t3.1, t3.2) (by subst e_t4; exact (if_pos h3))
        · skip
          refine wi_iload hC 0 d_MO_isLess_67 rfl ?_
          refine wi_iload_n hC 3 d_MO_isLess_69 rfl rfl ?_
          obtain ⟨Tt5, eTt5⟩ : ∃ y : Bool, y = (
                  if t3.1 < v1 then
                    false
                  else
                    if 64 ≤ (t3.1 - v1) then
                      false
                    else
                      if (jlshr (gJ τ 108 (jat 0)) (t3.1 - v1)) &&& 1 = 1 then
                        true
                      else
                        false) := ⟨_, rfl⟩
          have Jt5 : ∀ (t5 : Bool), Tt5 = t5 → WS p l e { frames := 1, cells := 0, slots := 0, locals := 21 } s m args below meth c Q E 8 105 [(5, .int t3.1), (4, .int (bI t3.2)), (3, .int v2), (2, .int v1), (1, .int t1), (0, .ref 35)] [.int (bI t5)] (σ, τ, q) := by
            intro t5  e_t5
            rw [eTt5] at e_t5
            refine wi_istore hC [(6, .int (bI t5)), (5, .int t3.1), (4, .int (bI t3.2)), (3, .int v2), (2, .int v1), (1, .int t1), (0, .ref 35)] d_MO_isLess_105 (by decide) rfl ?_
            refine wi_iload hC 1 d_MO_isLess_107 rfl ?_
            refine wi_iload_n hC 3 d_MO_isLess_109 rfl rfl ?_
            obtain ⟨Tt6, eTt6⟩ : ∃ y : Bool, y = (
                    if t3.1 < v2 then
                      false
                    else
                      if 64 ≤ (t3.1 - v2) then
                        false
                      else
                        if (jlshr (gJ τ 108 (jat 1)) (t3.1 - v2)) &&& 1 = 1 then
                          true
                        else
                          false) := ⟨_, rfl⟩
            have Jt6 : ∀ (t6 : Bool), Tt6 = t6 → WS p l e { frames := 1, cells := 0, slots := 0, locals := 21 } s m args below meth c Q E 8 145 [(6, .int (bI t5)), (5, .int t3.1), (4, .int (bI t3.2)), (3, .int v2), (2, .int v1), (1, .int t1), (0, .ref 35)] [.int (bI t6)] (σ, τ, q) := by
              intro t6  e_t6
              rw [eTt6] at e_t6
              refine wi_istore hC [(7, .int (bI t6)), (6, .int (bI t5)), (5, .int t3.1), (4, .int (bI t3.2)), (3, .int v2), (2, .int v1), (1, .int t1), (0, .ref 35)] d_MO_isLess_145 (by decide) rfl ?_
              refine wi_iload hC 1 d_MO_isLess_147 rfl ?_
              refine wi_iload hC 0 d_MO_isLess_149 rfl ?_
              obtain ⟨Tt7, eTt7⟩ : ∃ y : Bool, y = (
                      if t5 = t6 then
                        t3.2
                      else
                        t6) := ⟨_, rfl⟩
              have Jt7 : ∀ (t7 : Bool), Tt7 = t7 → WS p l e { frames := 1, cells := 0, slots := 0, locals := 21 } s m args below meth c Q E 8 161 [(7, .int (bI t6)), (6, .int (bI t5)), (5, .int t3.1), (4, .int (bI t3.2)), (3, .int v2), (2, .int v1), (1, .int t1), (0, .ref 35)] [.int (bI t7)] (σ, τ, q) := by
                intro t7  e_t7
                rw [eTt7] at e_t7
                refine wi_istore hC [(4, .int (bI t7)), (7, .int (bI t6)), (6, .int (bI t5)), (5, .int t3.1), (3, .int v2), (2, .int v1), (1, .int t1), (0, .ref 35)] d_MO_isLess_161 (by decide) rfl ?_
                obtain ⟨v3, e_v3⟩ : ∃ y : Int32, t3.1 + 1 = y := ⟨_, rfl⟩
                refine wi_iinc hC 3 v3 [(5, .int v3), (4, .int (bI t7)), (7, .int (bI t6)), (6, .int (bI t5)), (3, .int v2), (2, .int v1), (1, .int t1), (0, .ref 35)] d_MO_isLess_163 rfl (by rw [← e_v3]; rfl) (by decide) rfl ?_
                refine wi_goto hC 49 d_MO_isLess_166 (by decide) ?_
                refine wi_lv [0, 1, 4, 5, 6, 7] [(5, .int v3), (4, .int (bI t7)), (3, .int v2), (2, .int v1), (1, .int t1), (0, .ref 35)] rfl ?_
                exact hc_t3 (v3, t7) (by subst e_v3; subst e_t7; subst e_t6; subst e_t5; subst e_t4; exact (if_neg h3))
              refine wi_zc_ne (a := t5) (b := t6) hC 159 d_MO_isLess_151 (by decide) (fun h10 => ?_) (fun h10 => ?_)
              · skip
                refine wi_iload hC 0 d_MO_isLess_159 rfl ?_
                exact Jt7 t6 (by exact (Eq.trans eTt7 (if_neg h10)))
              · skip
                refine wi_iload hC 3 d_MO_isLess_154 rfl ?_
                refine wi_goto hC 161 d_MO_isLess_156 (by decide) ?_
                exact Jt7 t3.2 (by exact (Eq.trans eTt7 (if_pos h10)))
            refine wi_icmp_lt hC 144 d_MO_isLess_110 (by decide) (fun h7 => ?_) (fun h7 => ?_)
            · skip
              refine wi_iconst hC 0 (by decide) d_MO_isLess_144 ?_
              exact Jt6 false (by exact (Eq.trans eTt6 (if_pos h7)))
            · skip
              refine wi_iload hC 1 d_MO_isLess_113 rfl ?_
              refine wi_iload_n hC 3 d_MO_isLess_115 rfl rfl ?_
              refine wi_isub hC d_MO_isLess_116 ?_
              refine wi_bipush hC 64 (by decide) d_MO_isLess_117 ?_
              refine wi_icmp_ge hC 144 d_MO_isLess_119 (by decide) (fun h8 => ?_) (fun h8 => ?_)
              · skip
                refine wi_iconst hC 0 (by decide) d_MO_isLess_144 ?_
                exact Jt6 false (by exact (Eq.trans eTt6 (Eq.trans (if_neg h7) (if_pos h8))))
              · skip
                refine wi_aload_n hC 6 d_MO_isLess_122 rfl rfl ?_
                refine wg_MO_part hC wd_677 d_MO_isLess_123 ?_
                refine wi_iconst hC 1 (by decide) d_MO_isLess_126 ?_
                refine wa_ld40 hC (by unfold vp_in; decide) d_MO_isLess_127 ?_
                refine wi_iload hC 1 d_MO_isLess_128 rfl ?_
                refine wi_iload_n hC 3 d_MO_isLess_130 rfl rfl ?_
                refine wi_isub hC d_MO_isLess_131 ?_
                refine wi_lshr hC d_MO_isLess_132 ?_
                refine wi_lconst hC 1 (by decide) d_MO_isLess_133 ?_
                refine wi_land hC d_MO_isLess_134 ?_
                refine wi_lconst hC 1 (by decide) d_MO_isLess_135 ?_
                refine wi_lcmp_ne hC 144 d_MO_isLess_136 d_MO_isLess_137 (by decide) (fun h9 => ?_) (fun h9 => ?_)
                · skip
                  refine wi_iconst hC 0 (by decide) d_MO_isLess_144 ?_
                  exact Jt6 false (by exact (Eq.trans eTt6 (Eq.trans (if_neg h7) (Eq.trans (if_neg h8) (if_neg h9)))))
                · skip
                  refine wi_iconst hC 1 (by decide) d_MO_isLess_140 ?_
                  refine wi_goto hC 145 d_MO_isLess_141 (by decide) ?_
                  exact Jt6 true (by exact (Eq.trans eTt6 (Eq.trans (if_neg h7) (Eq.trans (if_neg h8) (if_pos h9)))))
          refine wi_icmp_lt hC 104 d_MO_isLess_70 (by decide) (fun h4 => ?_) (fun h4 => ?_)
          · skip
            refine wi_iconst hC 0 (by decide) d_MO_isLess_104 ?_
            exact Jt5 false (by exact (Eq.trans eTt5 (if_pos h4)))
          · skip
            refine wi_iload hC 0 d_MO_isLess_73 rfl ?_
            refine wi_iload_n hC 3 d_MO_isLess_75 rfl rfl ?_
            refine wi_isub hC d_MO_isLess_76 ?_
            refine wi_bipush hC 64 (by decide) d_MO_isLess_77 ?_
            refine wi_icmp_ge hC 104 d_MO_isLess_79 (by decide) (fun h5 => ?_) (fun h5 => ?_)
            · skip
              refine wi_iconst hC 0 (by decide) d_MO_isLess_104 ?_
              exact Jt5 false (by exact (Eq.trans eTt5 (Eq.trans (if_neg h4) (if_pos h5))))
            · skip
              refine wi_aload_n hC 5 d_MO_isLess_82 rfl rfl ?_
              refine wg_MO_part hC wd_677 d_MO_isLess_83 ?_
              refine wi_iconst hC 0 (by decide) d_MO_isLess_86 ?_
              refine wa_ld40 hC (by unfold vp_in; decide) d_MO_isLess_87 ?_
              refine wi_iload hC 0 d_MO_isLess_88 rfl ?_
              refine wi_iload_n hC 3 d_MO_isLess_90 rfl rfl ?_
              refine wi_isub hC d_MO_isLess_91 ?_
              refine wi_lshr hC d_MO_isLess_92 ?_
              refine wi_lconst hC 1 (by decide) d_MO_isLess_93 ?_
              refine wi_land hC d_MO_isLess_94 ?_
              refine wi_lconst hC 1 (by decide) d_MO_isLess_95 ?_
              refine wi_lcmp_ne hC 104 d_MO_isLess_96 d_MO_isLess_97 (by decide) (fun h6 => ?_) (fun h6 => ?_)
              · skip
                refine wi_iconst hC 0 (by decide) d_MO_isLess_104 ?_
                exact Jt5 false (by exact (Eq.trans eTt5 (Eq.trans (if_neg h4) (Eq.trans (if_neg h5) (if_neg h6)))))
              · skip
                refine wi_iconst hC 1 (by decide) d_MO_isLess_100 ?_
                refine wi_goto hC 105 d_MO_isLess_101 (by decide) ?_
                exact Jt5 true (by exact (Eq.trans eTt5 (Eq.trans (if_neg h4) (Eq.trans (if_neg h5) (if_pos h6)))))
      refine wi_icmp_ge hC 60 d_MO_isLess_53 (by decide) (fun h2 => ?_) (fun h2 => ?_)
      · skip
        refine wi_iload_n hC 3 d_MO_isLess_60 rfl rfl ?_
        exact Jt4 v1 (by exact (Eq.trans eTt4 (if_pos h2)))
      · skip
        refine wi_iload_n hC 2 d_MO_isLess_56 rfl rfl ?_
        refine wi_goto hC 61 d_MO_isLess_57 (by decide) ?_
        exact Jt4 v2 (by exact (Eq.trans eTt4 (if_neg h2)))
    obtain ⟨t2, e_t2⟩ : ∃ y : Int32 × Bool, lpn ((b_MO_isLess_49 τ v1 v2)) (upf ((if v2 ≤ v1 then v1 else v2) + 64) 0) (0, false) = y := ⟨_, rfl⟩
    rw [e_t2]
    refine wi_iload hC 1 d_MO_isLess_169 rfl ?_
    have hf : f_MO_isLess τ = t2.2 := by subst e_t2; subst e_v2; subst e_v1; subst e_t1; exact rfl
    exact wi_zret hC hr hk d_MO_isLess_171 rfl (congrArg (fun z => some (Value.int (bI z))) hf) rfl hQ
  refine wi_icmp_ge hC 21 d_MO_isLess_10 (by decide) (fun h1 => ?_) (fun h1 => ?_)
  · skip
    refine wi_aload_n hC 0 d_MO_isLess_21 rfl rfl ?_
    refine wi_iconst hC 1 (by decide) d_MO_isLess_22 ?_
    refine k_MO_unitOf hC (by unfold vp_in; decide) wd_723 (by decide) (Nat.le_of_ble_eq_true rfl) d_MO_isLess_23 ?_
    exact Jt1 (f_MO_unitOf τ 1) (by exact (Eq.trans eTt1 (if_pos h1)))
  · skip
    refine wi_aload_n hC 0 d_MO_isLess_13 rfl rfl ?_
    refine wi_iconst hC 0 (by decide) d_MO_isLess_14 ?_
    refine k_MO_unitOf hC (by unfold vp_in; decide) wd_723 (by decide) (Nat.le_of_ble_eq_true rfl) d_MO_isLess_15 ?_
    refine wi_goto hC 26 d_MO_isLess_18 (by decide) ?_
    exact Jt1 (f_MO_unitOf τ 0) (by exact (Eq.trans eTt1 (if_neg h1)))
theorem k_MO_isLess {p : Program} {l : Launch} {e : Env} {R : Room} {s : State} {m : MethodId} {args : Array Value} {below : List Frame} {meth : Method} {c : Code} {Q : State → Prop} {E : Ev} {nL pc index : Nat} {lv : List (Nat × Value)} {rest : List Value} {cc : ByteArray} {own : String} {σ τ : St} {q : Int64}  (hC : Cx p s m args c cc nL own E)   (hl : Cond.methodLink own index y_MO_isLess ∈ WL) (hR : 1 + 1 ≤ R.frames ∧ 8 + (8 + 11) + 21 ≤ R.locals) (hs8 : (rest.map fun v => v.category).sum ≤ 8) (d : decode cc pc = .ok (.invokevirtual index, 3)) (k : WS p l e R s m args below meth c Q E nL (pc + 3) lv ((.int (bI (f_MO_isLess τ))) :: rest) (σ, τ, q)) : WS p l e R s m args below meth c Q E nL pc lv (.ref 35 :: rest) (σ, τ, q) := by
  exact wi_callV hC (n := 0) (vs := []) (rest := rest) 35 11 (by decide) rfl rfl rfl (c_MO_isLess l E σ τ q  ) (by decide +kernel) wd_724 wd_662 wd_725 wd_726 ⟨rfl, rfl⟩ rfl rfl hl hR hs8 d k
set_option maxRecDepth 100000 in
set_option maxHeartbeats 400000 in
theorem c_MO_empty (l : Launch) (E : Ev) (σ τ : St) (q : Int64) (a1 : Int32) (a2 : Int32) (hp : 0 ≤ a1.toInt ∧ a1.toInt ≤ 33000) : MF l y_MO_empty prog_14_method_25_code 4 none { frames := 0, cells := 0, slots := 0, locals := 0 } E [.ref 35, .int a1, .int a2] (σ, τ, q) none (σ, (f_MO_empty τ a1 a2), q) := by
  refine MF_intro (lv0 := [(0, .ref 35), (1, .int a1), (2, .int a2)]) (by decide) wd_731 (Nat.le_of_ble_eq_true rfl) rfl ?_
  intro p e s m args below meth c Q hC hr hk hQ
  replace hC : Cx p s m args c prog_14_method_25_code 4 "PartnerStackModel$RealOperationsModel" E := hC
  refine wi_aload_n hC 0 d_MO_empty_0 rfl rfl ?_
  refine wi_iload_n hC 1 d_MO_empty_1 rfl rfl ?_
  refine wp_MO_size hC hp wd_727 d_MO_empty_2 ?_
  refine wi_nmM (fun s1 e_s1 => ?_)
  refine wi_aload_n hC 0 d_MO_empty_5 rfl rfl ?_
  refine wi_iload_n hC 2 d_MO_empty_6 rfl rfl ?_
  refine wp_MO_unit hC wd_728 d_MO_empty_7 ?_
  refine wi_nmM (fun s2 e_s2 => ?_)
  refine wi_aload_n hC 0 d_MO_empty_10 rfl rfl ?_
  refine wi_iconst hC 0 (by decide) d_MO_empty_11 ?_
  refine wp_MO_more hC false rfl wd_729 d_MO_empty_12 ?_
  refine wi_nmM (fun s3 e_s3 => ?_)
  refine wi_iconst hC 0 (by decide) d_MO_empty_15 ?_
  refine wi_istore_n hC [(3, .int 0), (0, .ref 35), (1, .int a1), (2, .int a2)] d_MO_empty_16 rfl (by decide) rfl ?_
  refine wi_loop ((b_MO_empty_17 a1)) (fun t2 => 0 ≤ (t2.1).toInt) (fun t2 => [(3, .int t2.1), (0, .ref 35), (1, .int a1), (2, .int a2)]) (fun t2 => (σ, t2.2, q)) 35 ?_ (up_inv (b := (b_MO_empty_17 a1)) (fun t => t.1) a1 0 (st_b_MO_empty_17 a1)) (upf a1 0) (0, s3) (show (0 : Int) ≤ (0 : Int32).toInt by decide) (up_halt (b := (b_MO_empty_17 a1)) (fun t => t.1) a1 (st_b_MO_empty_17 a1) (0, s3)) ?_
  · intro t2 hi_t2 hc_t2 hx_t2
    refine wi_iload_n hC 0 d_MO_empty_17 rfl rfl ?_
    refine wi_iload_n hC 2 d_MO_empty_18 rfl rfl ?_
    refine wi_icmp_ge hC 35 d_MO_empty_19 (by decide) (fun h1 => ?_) (fun h1 => ?_)
    · skip
      exact hx_t2 (t2.1, t2.2) (by exact (if_pos h1))
    · skip
      refine wi_aload_n hC 1 d_MO_empty_22 rfl rfl ?_
      refine wg_MO_row hC wd_730 d_MO_empty_23 ?_
      refine wi_iload_n hC 0 d_MO_empty_26 rfl rfl ?_
      refine wi_iconst hC 0 (by decide) d_MO_empty_27 ?_
      refine wa_st41 hC false rfl (vin_of hi_t2 (hi_n h1 hp.2)) d_MO_empty_28 ?_
      refine wi_nmM (fun s4 e_s4 => ?_)
      obtain ⟨v1, e_v1⟩ : ∃ y : Int32, t2.1 + 1 = y := ⟨_, rfl⟩
      refine wi_iinc hC 0 v1 [(3, .int v1), (0, .ref 35), (1, .int a1), (2, .int a2)] d_MO_empty_29 rfl (by rw [← e_v1]; rfl) (by decide) rfl ?_
      refine wi_goto hC 17 d_MO_empty_32 (by decide) ?_
      exact hc_t2 (v1, s4) (by subst e_v1; subst e_s4; exact (if_neg h1))
  obtain ⟨t1, e_t1⟩ : ∃ y : Int32 × St, lpn ((b_MO_empty_17 a1)) (upf a1 0) (0, s3) = y := ⟨_, rfl⟩
  rw [e_t1]
  have hf : f_MO_empty τ a1 a2 = t1.2 := by subst e_t1; subst e_s3; subst e_s2; subst e_s1; exact rfl
  exact wi_vret hC hr hk d_MO_empty_35 rfl (congrArg (fun z => (σ, z, q)) hf).symm hQ
theorem k_MO_empty {p : Program} {l : Launch} {e : Env} {R : Room} {s : State} {m : MethodId} {args : Array Value} {below : List Frame} {meth : Method} {c : Code} {Q : State → Prop} {E : Ev} {nL pc index : Nat} {lv : List (Nat × Value)} {rest : List Value} {cc : ByteArray} {own : String} {σ τ : St} {q : Int64} {a1 : Int32} {a2 : Int32} (hC : Cx p s m args c cc nL own E)  (hp : 0 ≤ a1.toInt ∧ a1.toInt ≤ 33000) (hl : Cond.methodLink own index y_MO_empty ∈ WL) (hR : 0 + 1 ≤ R.frames ∧ 8 + (4 + 11) + 0 ≤ R.locals) (hs8 : (rest.map fun v => v.category).sum ≤ 8) (d : decode cc pc = .ok (.invokevirtual index, 3)) (k : WS p l e R s m args below meth c Q E nL (pc + 3) lv rest (σ, (f_MO_empty τ a1 a2), q)) : WS p l e R s m args below meth c Q E nL pc lv (.int a2 :: .int a1 :: .ref 35 :: rest) (σ, τ, q) := by
  exact wi_callV hC (n := 2) (vs := [.int a1, .int a2]) (rest := rest) 35 11 (by decide) rfl rfl rfl (c_MO_empty l E σ τ q a1 a2 hp) (by decide +kernel) wd_731 wd_662 wd_732 wd_733 ⟨rfl, rfl⟩ rfl rfl hl hR hs8 d k
set_option maxRecDepth 100000 in
set_option maxHeartbeats 400000 in
theorem c_MO_join (l : Launch) (E : Ev) (σ τ : St) (q : Int64) (a1 : Int64) (a2 : Int32) (a3 : Bool) (hp : 0 ≤ a2.toInt) : MF l y_MO_join prog_14_method_26_code 9 none { frames := 0, cells := 0, slots := 0, locals := 0 } E [.ref 35, .long a1, .int a2, .int (bI a3)] (σ, τ, q) none (σ, (f_MO_join τ a1 a2 a3), q) := by
  refine MF_intro (lv0 := [(0, .ref 35), (1, .long a1), (3, .int a2), (4, .int (bI a3))]) (by decide) wd_734 (Nat.le_of_ble_eq_true rfl) rfl ?_
  intro p e s m args below meth c Q hC hr hk hQ
  replace hC : Cx p s m args c prog_14_method_26_code 9 "PartnerStackModel$RealOperationsModel" E := hC
  refine wi_iconst hC 0 (by decide) d_MO_join_0 ?_
  refine wi_istore hC [(5, .int 0), (0, .ref 35), (1, .long a1), (3, .int a2), (4, .int (bI a3))] d_MO_join_1 (by decide) rfl ?_
  refine wi_iload_n hC 3 d_MO_join_3 rfl rfl ?_
  refine wi_istore hC [(6, .int a2), (5, .int 0), (0, .ref 35), (1, .long a1), (3, .int a2), (4, .int (bI a3))] d_MO_join_4 (by decide) rfl ?_
  refine wi_loop ((b_MO_join_6 a1 a2 a3)) (fun t2 => 0 ≤ (t2.1).toInt) (fun t2 => [(6, .int t2.1), (5, .int (bI t2.2.1)), (0, .ref 35), (1, .long a1), (3, .int a2), (4, .int (bI a3))]) (fun t2 => (σ, t2.2.2, q)) 163 ?_ (up_invv (b := (b_MO_join_6 a1 a2 a3)) (fun t => t.1) (fun t => gI t.2.2 18 35) 0 (st_b_MO_join_6 a1 a2 a3)) (upf (gI τ 18 35) a2) (a2, false, τ) hp (up_haltv (b := (b_MO_join_6 a1 a2 a3)) (fun t => t.1) (fun t => gI t.2.2 18 35) (st_b_MO_join_6 a1 a2 a3) (a2, false, τ)) ?_
  · intro t2 hi_t2 hc_t2 hx_t2
    refine wi_iload hC 0 d_MO_join_6 rfl ?_
    refine wi_aload_n hC 2 d_MO_join_8 rfl rfl ?_
    refine wg_MO_size hC wd_727 d_MO_join_9 ?_
    refine wi_icmp_ge hC 163 d_MO_join_12 (by decide) (fun h1 => ?_) (fun h1 => ?_)
    · skip
      exact hx_t2 (t2.1, t2.2.1, t2.2.2) (by exact (if_pos h1))
    · skip
      refine wi_aload_n hC 2 d_MO_join_15 rfl rfl ?_
      refine wg_MO_row hC wd_730 d_MO_join_16 ?_
      refine wi_iload hC 0 d_MO_join_19 rfl ?_
      refine wi_inv (fun hv1 => ?_)
      refine wa_ld41 hC (vin_of hi_t2 (hi_n h1 hv1.2.2.2.2.2.2.1)) d_MO_join_21 ?_
      refine wi_nmZ (fun v1 e_v1 => ?_)
      refine wi_istore hC [(7, .int (bI v1)), (6, .int t2.1), (5, .int (bI t2.2.1)), (0, .ref 35), (1, .long a1), (3, .int a2), (4, .int (bI a3))] d_MO_join_22 (by decide) rfl ?_
      refine wi_iload hC 1 d_MO_join_24 rfl ?_
      refine wi_iload_n hC 5 d_MO_join_26 rfl rfl ?_
      refine wi_isub hC d_MO_join_27 ?_
      refine wi_bipush hC 64 (by decide) d_MO_join_28 ?_
      obtain ⟨Tt3, eTt3⟩ : ∃ y : Bool, y = (
              if 64 ≤ (t2.1 - a2) then
                false
              else
                if (jlshr a1 (t2.1 - a2)) &&& 1 = 1 then
                  true
                else
                  false) := ⟨_, rfl⟩
      have Jt3 : ∀ (t3 : Bool), Tt3 = t3 → WS p l e { frames := 0, cells := 0, slots := 0, locals := 0 } s m args below meth c Q E 9 51 [(7, .int (bI v1)), (6, .int t2.1), (5, .int (bI t2.2.1)), (0, .ref 35), (1, .long a1), (3, .int a2), (4, .int (bI a3))] [.int (bI t3)] (σ, t2.2.2, q) := by
        intro t3  e_t3
        rw [eTt3] at e_t3
        refine wi_istore hC [(8, .int (bI t3)), (7, .int (bI v1)), (6, .int t2.1), (5, .int (bI t2.2.1)), (0, .ref 35), (1, .long a1), (3, .int a2), (4, .int (bI a3))] d_MO_join_51 (by decide) rfl ?_
        refine wi_aload_n hC 4 d_MO_join_53 rfl rfl ?_
        refine wg_MO_row hC wd_730 d_MO_join_54 ?_
        refine wi_iload hC 2 d_MO_join_57 rfl ?_
        refine wi_iload hC 1 d_MO_join_59 rfl ?_
        refine wi_iload hC 0 d_MO_join_61 rfl ?_
        obtain ⟨Tt4, eTt4⟩ : ∃ y : Bool, y = (
                if v1 = t3 then
                  false
                else
                  true) := ⟨_, rfl⟩
        have Jt4 : ∀ (t4 : Bool), Tt4 = t4 → WS p l e { frames := 0, cells := 0, slots := 0, locals := 0 } s m args below meth c Q E 9 71 [(8, .int (bI t3)), (7, .int (bI v1)), (6, .int t2.1), (5, .int (bI t2.2.1)), (0, .ref 35), (1, .long a1), (3, .int a2), (4, .int (bI a3))] [.int (bI t4), .int t2.1, .ref 41] (σ, t2.2.2, q) := by
          intro t4  e_t4
          rw [eTt4] at e_t4
          refine wi_iload hC 3 d_MO_join_71 rfl ?_
          obtain ⟨Tt5, eTt5⟩ : ∃ y : Bool, y = (
                  if t4 = t2.2.1 then
                    false
                  else
                    true) := ⟨_, rfl⟩
          have Jt5 : ∀ (t5 : Bool), Tt5 = t5 → WS p l e { frames := 0, cells := 0, slots := 0, locals := 0 } s m args below meth c Q E 9 81 [(8, .int (bI t3)), (7, .int (bI v1)), (6, .int t2.1), (5, .int (bI t2.2.1)), (0, .ref 35), (1, .long a1), (3, .int a2), (4, .int (bI a3))] [.int (bI t5), .int t2.1, .ref 41] (σ, t2.2.2, q) := by
            intro t5  e_t5
            rw [eTt5] at e_t5
            refine wi_inv (fun hv2 => ?_)
            refine wa_st41 hC t5 rfl (vin_of hi_t2 (hi_n h1 hv2.2.2.2.2.2.2.1)) d_MO_join_81 ?_
            refine wi_nmM (fun s1 e_s1 => ?_)
            refine wi_iload hC 7 d_MO_join_82 rfl ?_
            obtain ⟨Tt6, eTt6⟩ : ∃ y : Bool, y = (
                    if a3 = true then
                      if v1 = true then
                        f_MO_join_b102 t2 t3
                      else
                        if t3 = true then
                          true
                        else
                          if t2.2.1 = true then
                            true
                          else
                            f_MO_join_b102 t2 t3
                    else
                      if v1 = true then
                        if t3 = true then
                          true
                        else
                          f_MO_join_b130 t2 v1 t3
                      else
                        f_MO_join_b130 t2 v1 t3) := ⟨_, rfl⟩
            have Jt6 : ∀ (t6 : Bool), Tt6 = t6 → WS p l e { frames := 0, cells := 0, slots := 0, locals := 0 } s m args below meth c Q E 9 155 [(8, .int (bI t3)), (7, .int (bI v1)), (6, .int t2.1), (5, .int (bI t2.2.1)), (0, .ref 35), (1, .long a1), (3, .int a2), (4, .int (bI a3))] [.int (bI t6)] (σ, s1, q) := by
              intro t6  e_t6
              rw [eTt6] at e_t6
              refine wi_istore hC [(5, .int (bI t6)), (8, .int (bI t3)), (7, .int (bI v1)), (6, .int t2.1), (0, .ref 35), (1, .long a1), (3, .int a2), (4, .int (bI a3))] d_MO_join_155 (by decide) rfl ?_
              obtain ⟨v2, e_v2⟩ : ∃ y : Int32, t2.1 + 1 = y := ⟨_, rfl⟩
              refine wi_iinc hC 3 v2 [(6, .int v2), (5, .int (bI t6)), (8, .int (bI t3)), (7, .int (bI v1)), (0, .ref 35), (1, .long a1), (3, .int a2), (4, .int (bI a3))] d_MO_join_157 rfl (by rw [← e_v2]; rfl) (by decide) rfl ?_
              refine wi_goto hC 6 d_MO_join_160 (by decide) ?_
              refine wi_lv [0, 1, 4, 5, 6, 7] [(6, .int v2), (5, .int (bI t6)), (0, .ref 35), (1, .long a1), (3, .int a2), (4, .int (bI a3))] rfl ?_
              exact hc_t2 (v2, t6, s1) (by subst e_v2; subst e_t6; subst e_s1; subst e_t5; subst e_t4; subst e_t3; subst e_v1; exact (if_neg h1))
            refine wi_z_eq (b := a3) hC 120 d_MO_join_84 (by decide) (fun h6 => ?_) (fun h6 => ?_)
            · skip
              refine wi_iload hC 1 d_MO_join_120 rfl ?_
              have B1 : Tt6 = f_MO_join_b130 t2 v1 t3 → WS p l e { frames := 0, cells := 0, slots := 0, locals := 0 } s m args below meth c Q E 9 130 [(8, .int (bI t3)), (7, .int (bI v1)), (6, .int t2.1), (5, .int (bI t2.2.1)), (0, .ref 35), (1, .long a1), (3, .int a2), (4, .int (bI a3))] [] (σ, s1, q) := by
                intro hB1
                refine wi_iload hC 1 d_MO_join_130 rfl ?_
                have B2 : Tt6 = f_MO_join_b140 t2 t3 → WS p l e { frames := 0, cells := 0, slots := 0, locals := 0 } s m args below meth c Q E 9 140 [(8, .int (bI t3)), (7, .int (bI v1)), (6, .int t2.1), (5, .int (bI t2.2.1)), (0, .ref 35), (1, .long a1), (3, .int a2), (4, .int (bI a3))] [] (σ, s1, q) := by
                  intro hB2
                  refine wi_iload hC 0 d_MO_join_140 rfl ?_
                  refine wi_z_eq (b := t3) hC 154 d_MO_join_142 (by decide) (fun h11 => ?_) (fun h11 => ?_)
                  · skip
                    refine wi_iconst hC 0 (by decide) d_MO_join_154 ?_
                    exact Jt6 false (by exact (Eq.trans hB2 (if_neg h11)))
                  · skip
                    refine wi_iload hC 3 d_MO_join_145 rfl ?_
                    refine wi_z_eq (b := t2.2.1) hC 154 d_MO_join_147 (by decide) (fun h12 => ?_) (fun h12 => ?_)
                    · skip
                      refine wi_iconst hC 0 (by decide) d_MO_join_154 ?_
                      exact Jt6 false (by exact (Eq.trans hB2 (Eq.trans (if_pos h11) (if_neg h12))))
                    · skip
                      refine wi_iconst hC 1 (by decide) d_MO_join_150 ?_
                      refine wi_goto hC 155 d_MO_join_151 (by decide) ?_
                      exact Jt6 true (by exact (Eq.trans hB2 (Eq.trans (if_pos h11) (if_pos h12))))
                refine wi_z_eq (b := v1) hC 140 d_MO_join_132 (by decide) (fun h9 => ?_) (fun h9 => ?_)
                · skip
                  exact B2   (by exact (Eq.trans hB1 (if_neg h9)))
                · skip
                  refine wi_iload hC 3 d_MO_join_135 rfl ?_
                  refine wi_z_ne (b := t2.2.1) hC 150 d_MO_join_137 (by decide) (fun h10 => ?_) (fun h10 => ?_)
                  · skip
                    refine wi_iconst hC 1 (by decide) d_MO_join_150 ?_
                    refine wi_goto hC 155 d_MO_join_151 (by decide) ?_
                    exact Jt6 true (by exact (Eq.trans hB1 (Eq.trans (if_pos h9) (if_pos h10))))
                  · skip
                    exact B2   (by exact (Eq.trans hB1 (Eq.trans (if_pos h9) (if_neg h10))))
              refine wi_z_eq (b := v1) hC 130 d_MO_join_122 (by decide) (fun h7 => ?_) (fun h7 => ?_)
              · skip
                exact B1   (by exact (Eq.trans eTt6 (Eq.trans (if_neg h6) (if_neg h7))))
              · skip
                refine wi_iload hC 0 d_MO_join_125 rfl ?_
                refine wi_z_ne (b := t3) hC 150 d_MO_join_127 (by decide) (fun h8 => ?_) (fun h8 => ?_)
                · skip
                  refine wi_iconst hC 1 (by decide) d_MO_join_150 ?_
                  refine wi_goto hC 155 d_MO_join_151 (by decide) ?_
                  exact Jt6 true (by exact (Eq.trans eTt6 (Eq.trans (if_neg h6) (Eq.trans (if_pos h7) (if_pos h8)))))
                · skip
                  exact B1   (by exact (Eq.trans eTt6 (Eq.trans (if_neg h6) (Eq.trans (if_pos h7) (if_neg h8)))))
            · skip
              refine wi_iload hC 1 d_MO_join_87 rfl ?_
              have B3 : Tt6 = f_MO_join_b102 t2 t3 → WS p l e { frames := 0, cells := 0, slots := 0, locals := 0 } s m args below meth c Q E 9 102 [(8, .int (bI t3)), (7, .int (bI v1)), (6, .int t2.1), (5, .int (bI t2.2.1)), (0, .ref 35), (1, .long a1), (3, .int a2), (4, .int (bI a3))] [] (σ, s1, q) := by
                intro hB3
                refine wi_iload hC 0 d_MO_join_102 rfl ?_
                refine wi_z_eq (b := t3) hC 116 d_MO_join_104 (by decide) (fun h16 => ?_) (fun h16 => ?_)
                · skip
                  refine wi_iconst hC 0 (by decide) d_MO_join_116 ?_
                  refine wi_goto hC 155 d_MO_join_117 (by decide) ?_
                  exact Jt6 false (by exact (Eq.trans hB3 (if_neg h16)))
                · skip
                  refine wi_iload hC 3 d_MO_join_107 rfl ?_
                  refine wi_z_eq (b := t2.2.1) hC 116 d_MO_join_109 (by decide) (fun h17 => ?_) (fun h17 => ?_)
                  · skip
                    refine wi_iconst hC 0 (by decide) d_MO_join_116 ?_
                    refine wi_goto hC 155 d_MO_join_117 (by decide) ?_
                    exact Jt6 false (by exact (Eq.trans hB3 (Eq.trans (if_pos h16) (if_neg h17))))
                  · skip
                    refine wi_iconst hC 1 (by decide) d_MO_join_112 ?_
                    refine wi_goto hC 155 d_MO_join_113 (by decide) ?_
                    exact Jt6 true (by exact (Eq.trans hB3 (Eq.trans (if_pos h16) (if_pos h17))))
              refine wi_z_ne (b := v1) hC 102 d_MO_join_89 (by decide) (fun h13 => ?_) (fun h13 => ?_)
              · skip
                exact B3   (by exact (Eq.trans eTt6 (Eq.trans (if_pos h6) (if_pos h13))))
              · skip
                refine wi_iload hC 0 d_MO_join_92 rfl ?_
                refine wi_z_ne (b := t3) hC 112 d_MO_join_94 (by decide) (fun h14 => ?_) (fun h14 => ?_)
                · skip
                  refine wi_iconst hC 1 (by decide) d_MO_join_112 ?_
                  refine wi_goto hC 155 d_MO_join_113 (by decide) ?_
                  exact Jt6 true (by exact (Eq.trans eTt6 (Eq.trans (if_pos h6) (Eq.trans (if_neg h13) (if_pos h14)))))
                · skip
                  refine wi_iload hC 3 d_MO_join_97 rfl ?_
                  refine wi_z_ne (b := t2.2.1) hC 112 d_MO_join_99 (by decide) (fun h15 => ?_) (fun h15 => ?_)
                  · skip
                    refine wi_iconst hC 1 (by decide) d_MO_join_112 ?_
                    refine wi_goto hC 155 d_MO_join_113 (by decide) ?_
                    exact Jt6 true (by exact (Eq.trans eTt6 (Eq.trans (if_pos h6) (Eq.trans (if_neg h13) (Eq.trans (if_neg h14) (if_pos h15))))))
                  · skip
                    exact B3   (by exact (Eq.trans eTt6 (Eq.trans (if_pos h6) (Eq.trans (if_neg h13) (Eq.trans (if_neg h14) (if_neg h15))))))
          refine wi_zc_eq (a := t4) (b := t2.2.1) hC 80 d_MO_join_73 (by decide) (fun h5 => ?_) (fun h5 => ?_)
          · skip
            refine wi_iconst hC 0 (by decide) d_MO_join_80 ?_
            exact Jt5 false (by exact (Eq.trans eTt5 (if_pos h5)))
          · skip
            refine wi_iconst hC 1 (by decide) d_MO_join_76 ?_
            refine wi_goto hC 81 d_MO_join_77 (by decide) ?_
            exact Jt5 true (by exact (Eq.trans eTt5 (if_neg h5)))
        refine wi_zc_eq (a := v1) (b := t3) hC 70 d_MO_join_63 (by decide) (fun h4 => ?_) (fun h4 => ?_)
        · skip
          refine wi_iconst hC 0 (by decide) d_MO_join_70 ?_
          exact Jt4 false (by exact (Eq.trans eTt4 (if_pos h4)))
        · skip
          refine wi_iconst hC 1 (by decide) d_MO_join_66 ?_
          refine wi_goto hC 71 d_MO_join_67 (by decide) ?_
          exact Jt4 true (by exact (Eq.trans eTt4 (if_neg h4)))
      refine wi_icmp_ge hC 50 d_MO_join_30 (by decide) (fun h2 => ?_) (fun h2 => ?_)
      · skip
        refine wi_iconst hC 0 (by decide) d_MO_join_50 ?_
        exact Jt3 false (by exact (Eq.trans eTt3 (if_pos h2)))
      · skip
        refine wi_lload_n hC 4 d_MO_join_33 rfl rfl ?_
        refine wi_iload hC 1 d_MO_join_34 rfl ?_
        refine wi_iload_n hC 5 d_MO_join_36 rfl rfl ?_
        refine wi_isub hC d_MO_join_37 ?_
        refine wi_lshr hC d_MO_join_38 ?_
        refine wi_lconst hC 1 (by decide) d_MO_join_39 ?_
        refine wi_land hC d_MO_join_40 ?_
        refine wi_lconst hC 1 (by decide) d_MO_join_41 ?_
        refine wi_lcmp_ne hC 50 d_MO_join_42 d_MO_join_43 (by decide) (fun h3 => ?_) (fun h3 => ?_)
        · skip
          refine wi_iconst hC 0 (by decide) d_MO_join_50 ?_
          exact Jt3 false (by exact (Eq.trans eTt3 (Eq.trans (if_neg h2) (if_neg h3))))
        · skip
          refine wi_iconst hC 1 (by decide) d_MO_join_46 ?_
          refine wi_goto hC 51 d_MO_join_47 (by decide) ?_
          exact Jt3 true (by exact (Eq.trans eTt3 (Eq.trans (if_neg h2) (if_pos h3))))
  obtain ⟨t1, e_t1⟩ : ∃ y : Int32 × Bool × St, lpn ((b_MO_join_6 a1 a2 a3)) (upf (gI τ 18 35) a2) (a2, false, τ) = y := ⟨_, rfl⟩
  rw [e_t1]
  have hf : f_MO_join τ a1 a2 a3 = t1.2.2 := by subst e_t1; exact rfl
  exact wi_vret hC hr hk d_MO_join_163 rfl (congrArg (fun z => (σ, z, q)) hf).symm hQ
theorem k_MO_join {p : Program} {l : Launch} {e : Env} {R : Room} {s : State} {m : MethodId} {args : Array Value} {below : List Frame} {meth : Method} {c : Code} {Q : State → Prop} {E : Ev} {nL pc index : Nat} {lv : List (Nat × Value)} {rest : List Value} {cc : ByteArray} {own : String} {σ τ : St} {q : Int64} {a1 : Int64} {a2 : Int32} (hC : Cx p s m args c cc nL own E) {x_a3 : Int32} (a3 : Bool) (hx_a3 : x_a3 = bI a3) (hp : 0 ≤ a2.toInt) (hl : Cond.methodLink own index y_MO_join ∈ WL) (hR : 0 + 1 ≤ R.frames ∧ 8 + (9 + 11) + 0 ≤ R.locals) (hs8 : (rest.map fun v => v.category).sum ≤ 8) (d : decode cc pc = .ok (.invokevirtual index, 3)) (k : WS p l e R s m args below meth c Q E nL (pc + 3) lv rest (σ, (f_MO_join τ a1 a2 a3), q)) : WS p l e R s m args below meth c Q E nL pc lv (.int x_a3 :: .int a2 :: .long a1 :: .ref 35 :: rest) (σ, τ, q) := by
  subst hx_a3
  exact wi_callV hC (n := 3) (vs := [.long a1, .int a2, .int (bI a3)]) (rest := rest) 35 11 (by decide) rfl rfl rfl (c_MO_join l E σ τ q a1 a2 a3 hp) (by decide +kernel) wd_734 wd_662 wd_735 wd_736 ⟨rfl, rfl⟩ rfl rfl hl hR hs8 d k
set_option maxRecDepth 100000 in
set_option maxHeartbeats 400000 in
theorem c_MO_highest (l : Launch) (E : Ev) (σ τ : St) (q : Int64)   : MF l y_MO_highest prog_14_method_19_code 2 (some .int) { frames := 0, cells := 0, slots := 0, locals := 0 } E [.ref 35] (σ, τ, q) (some (.int (f_MO_highest τ))) (σ, τ, q) := by
  refine MF_intro (lv0 := [(0, .ref 35)]) (by decide) wd_737 (Nat.le_of_ble_eq_true rfl) rfl ?_
  intro p e s m args below meth c Q hC hr hk hQ
  replace hC : Cx p s m args c prog_14_method_19_code 2 "PartnerStackModel$RealOperationsModel" E := hC
  refine wi_aload_n hC 0 d_MO_highest_0 rfl rfl ?_
  refine wg_MO_size hC wd_727 d_MO_highest_1 ?_
  refine wi_iconst hC 1 (by decide) d_MO_highest_4 ?_
  refine wi_isub hC d_MO_highest_5 ?_
  refine wi_nmI (fun v1 e_v1 => ?_)
  refine wi_istore_n hC [(1, .int v1), (0, .ref 35)] d_MO_highest_6 rfl (by decide) rfl ?_
  refine wi_inv (fun hv0 => ?_)
  refine wi_loop ((b_MO_highest_7 τ)) (fun t2 => (t2).toInt ≤ 32999) (fun t2 => [(1, .int t2), (0, .ref 35)]) (fun t2 => (σ, τ, q)) 26 ?_ (dn_inv (b := (b_MO_highest_7 τ)) (fun t => t) 32999 (st_b_MO_highest_7 τ)) (dnf v1) v1 (by rw [← e_v1]; exact sz1 ⟨hv0.2.2.2.2.2.1, hv0.2.2.2.2.2.2.1⟩) (dn_halt (b := (b_MO_highest_7 τ)) (fun t => t) (st_b_MO_highest_7 τ) v1) ?_
  · intro t2 hi_t2 hc_t2 hx_t2
    refine wi_iload_n hC 0 d_MO_highest_7 rfl rfl ?_
    refine wi_if_lt hC 26 d_MO_highest_8 (by decide) (fun h1 => ?_) (fun h1 => ?_)
    · skip
      exact hx_t2 t2 (by exact (if_pos h1))
    · skip
      refine wi_aload_n hC 1 d_MO_highest_11 rfl rfl ?_
      refine wg_MO_row hC wd_730 d_MO_highest_12 ?_
      refine wi_iload_n hC 0 d_MO_highest_15 rfl rfl ?_
      refine wa_ld41 hC (vin_of (lo_n h1) (hi_le hi_t2 (by decide))) d_MO_highest_16 ?_
      refine wi_z_ne (b := (gZ τ 109 (jat t2))) hC 26 d_MO_highest_17 (by decide) (fun h2 => ?_) (fun h2 => ?_)
      · skip
        exact hx_t2 t2 (by exact (Eq.trans (if_neg h1) (if_pos h2)))
      · skip
        obtain ⟨v2, e_v2⟩ : ∃ y : Int32, t2 + (-1) = y := ⟨_, rfl⟩
        refine wi_iinc hC 0 v2 [(1, .int v2), (0, .ref 35)] d_MO_highest_20 rfl (by rw [← e_v2]; rfl) (by decide) rfl ?_
        refine wi_goto hC 7 d_MO_highest_23 (by decide) ?_
        exact hc_t2 v2 (by subst e_v2; exact (Eq.trans (if_neg h1) (if_neg h2)))
  obtain ⟨t1, e_t1⟩ : ∃ y : Int32, lpn ((b_MO_highest_7 τ)) (dnf v1) v1 = y := ⟨_, rfl⟩
  rw [e_t1]
  refine wi_iload_n hC 0 d_MO_highest_26 rfl rfl ?_
  have hf : f_MO_highest τ = t1 := by subst e_t1; subst e_v1; exact rfl
  exact wi_iret hC hr hk d_MO_highest_27 (congrArg (fun z => some (Value.int z)) hf) rfl hQ
theorem k_MO_highest {p : Program} {l : Launch} {e : Env} {R : Room} {s : State} {m : MethodId} {args : Array Value} {below : List Frame} {meth : Method} {c : Code} {Q : State → Prop} {E : Ev} {nL pc index : Nat} {lv : List (Nat × Value)} {rest : List Value} {cc : ByteArray} {own : String} {σ τ : St} {q : Int64}  (hC : Cx p s m args c cc nL own E)   (hl : Cond.methodLink own index y_MO_highest ∈ WL) (hR : 0 + 1 ≤ R.frames ∧ 8 + (2 + 11) + 0 ≤ R.locals) (hs8 : (rest.map fun v => v.category).sum ≤ 8) (d : decode cc pc = .ok (.invokevirtual index, 3)) (k : WS p l e R s m args below meth c Q E nL (pc + 3) lv ((.int (f_MO_highest τ)) :: rest) (σ, τ, q)) : WS p l e R s m args below meth c Q E nL pc lv (.ref 35 :: rest) (σ, τ, q) := by
  exact wi_callV hC (n := 0) (vs := []) (rest := rest) 35 11 (by decide) rfl rfl rfl (c_MO_highest l E σ τ q  ) (by decide +kernel) wd_737 wd_662 wd_738 wd_739 ⟨rfl, rfl⟩ rfl rfl hl hR hs8 d k
set_option maxRecDepth 100000 in
set_option maxHeartbeats 400000 in
theorem c_MO_digits (l : Launch) (E : Ev) (σ τ : St) (q : Int64)   : MF l y_MO_digits prog_14_method_23_code 2 (some .int) { frames := 0, cells := 0, slots := 0, locals := 0 } E [.ref 35] (σ, τ, q) (some (.int (f_MO_digits τ))) (σ, τ, q) := by
  refine MF_intro (lv0 := [(0, .ref 35)]) (by decide) wd_740 (Nat.le_of_ble_eq_true rfl) rfl ?_
  intro p e s m args below meth c Q hC hr hk hQ
  replace hC : Cx p s m args c prog_14_method_23_code 2 "PartnerStackModel$RealOperationsModel" E := hC
  refine wi_aload_n hC 0 d_MO_digits_0 rfl rfl ?_
  refine wg_MO_word hC wd_660 d_MO_digits_1 ?_
  refine wi_sipush hC 256 (by decide) d_MO_digits_4 ?_
  refine wi_idiv hC (by decide) d_MO_digits_7 ?_
  refine wi_iconst hC 4 (by decide) d_MO_digits_8 ?_
  refine wi_irem hC (by decide) d_MO_digits_9 ?_
  refine wi_nmI (fun v1 e_v1 => ?_)
  refine wi_istore_n hC [(1, .int v1), (0, .ref 35)] d_MO_digits_10 rfl (by decide) rfl ?_
  refine wi_iload_n hC 0 d_MO_digits_11 rfl rfl ?_
  obtain ⟨Tt1, eTt1⟩ : ∃ y : Int32, y = (
          if v1 = 0 then
            24
          else
            if v1 = 2 then
              53
            else
              64) := ⟨_, rfl⟩
  have Jt1 : ∀ (t1 : Int32), Tt1 = t1 → WS p l e { frames := 0, cells := 0, slots := 0, locals := 0 } s m args below meth c Q E 2 32 [(1, .int v1), (0, .ref 35)] [.int t1] (σ, τ, q) := by
    intro t1  e_t1
    rw [eTt1] at e_t1
    have hf : f_MO_digits τ = t1 := by subst e_t1; subst e_v1; exact rfl
    exact wi_iret hC hr hk d_MO_digits_32 (congrArg (fun z => some (Value.int z)) hf) rfl hQ
  refine wi_if_ne hC 20 d_MO_digits_12 (by decide) (fun h1 => ?_) (fun h1 => ?_)
  · skip
    refine wi_iload_n hC 0 d_MO_digits_20 rfl rfl ?_
    refine wi_iconst hC 2 (by decide) d_MO_digits_21 ?_
    refine wi_icmp_ne hC 30 d_MO_digits_22 (by decide) (fun h2 => ?_) (fun h2 => ?_)
    · skip
      refine wi_bipush hC 64 (by decide) d_MO_digits_30 ?_
      exact Jt1 64 (by exact (Eq.trans eTt1 (Eq.trans (if_neg h1) (if_neg h2))))
    · skip
      refine wi_bipush hC 53 (by decide) d_MO_digits_25 ?_
      refine wi_goto hC 32 d_MO_digits_27 (by decide) ?_
      exact Jt1 53 (by exact (Eq.trans eTt1 (Eq.trans (if_neg h1) (if_pos h2))))
  · skip
    refine wi_bipush hC 24 (by decide) d_MO_digits_15 ?_
    refine wi_goto hC 32 d_MO_digits_17 (by decide) ?_
    exact Jt1 24 (by exact (Eq.trans eTt1 (if_pos h1)))
theorem k_MO_digits {p : Program} {l : Launch} {e : Env} {R : Room} {s : State} {m : MethodId} {args : Array Value} {below : List Frame} {meth : Method} {c : Code} {Q : State → Prop} {E : Ev} {nL pc index : Nat} {lv : List (Nat × Value)} {rest : List Value} {cc : ByteArray} {own : String} {σ τ : St} {q : Int64}  (hC : Cx p s m args c cc nL own E)   (hl : Cond.methodLink own index y_MO_digits ∈ WL) (hR : 0 + 1 ≤ R.frames ∧ 8 + (2 + 11) + 0 ≤ R.locals) (hs8 : (rest.map fun v => v.category).sum ≤ 8) (d : decode cc pc = .ok (.invokevirtual index, 3)) (k : WS p l e R s m args below meth c Q E nL (pc + 3) lv ((.int (f_MO_digits τ)) :: rest) (σ, τ, q)) : WS p l e R s m args below meth c Q E nL pc lv (.ref 35 :: rest) (σ, τ, q) := by
  exact wi_callV hC (n := 0) (vs := []) (rest := rest) 35 11 (by decide) rfl rfl rfl (c_MO_digits l E σ τ q  ) (by decide +kernel) wd_740 wd_662 wd_741 wd_742 ⟨rfl, rfl⟩ rfl rfl hl hR hs8 d k
set_option maxRecDepth 100000 in
set_option maxHeartbeats 400000 in
theorem c_MO_bit (l : Launch) (E : Ev) (σ τ : St) (q : Int64) (a1 : Int32)  : MF l y_MO_bit prog_14_method_18_code 2 (some .boolean) { frames := 0, cells := 0, slots := 0, locals := 0 } E [.ref 35, .int a1] (σ, τ, q) (some (.int (bI (f_MO_bit τ a1)))) (σ, τ, q) := by
  refine MF_intro (lv0 := [(0, .ref 35), (1, .int a1)]) (by decide) wd_743 (Nat.le_of_ble_eq_true rfl) rfl ?_
  intro p e s m args below meth c Q hC hr hk hQ
  replace hC : Cx p s m args c prog_14_method_18_code 2 "PartnerStackModel$RealOperationsModel" E := hC
  refine wi_iload_n hC 1 d_MO_bit_0 rfl rfl ?_
  obtain ⟨Tt1, eTt1⟩ : ∃ y : Bool, y = (
          if a1 < 0 then
            false
          else
            if (gI τ 18 35) ≤ a1 then
              false
            else
              if gZ τ 109 (jat a1) = true then
                true
              else
                false) := ⟨_, rfl⟩
  have Jt1 : ∀ (t1 : Bool), Tt1 = t1 → WS p l e { frames := 0, cells := 0, slots := 0, locals := 0 } s m args below meth c Q E 2 26 [(0, .ref 35), (1, .int a1)] [.int (bI t1)] (σ, τ, q) := by
    intro t1  e_t1
    rw [eTt1] at e_t1
    have hf : f_MO_bit τ a1 = t1 := by subst e_t1; exact rfl
    exact wi_zret hC hr hk d_MO_bit_26 rfl (congrArg (fun z => some (Value.int (bI z))) hf) rfl hQ
  refine wi_if_lt hC 25 d_MO_bit_1 (by decide) (fun h1 => ?_) (fun h1 => ?_)
  · skip
    refine wi_iconst hC 0 (by decide) d_MO_bit_25 ?_
    exact Jt1 false (by exact (Eq.trans eTt1 (if_pos h1)))
  · skip
    refine wi_iload_n hC 1 d_MO_bit_4 rfl rfl ?_
    refine wi_aload_n hC 0 d_MO_bit_5 rfl rfl ?_
    refine wg_MO_size hC wd_727 d_MO_bit_6 ?_
    refine wi_icmp_ge hC 25 d_MO_bit_9 (by decide) (fun h2 => ?_) (fun h2 => ?_)
    · skip
      refine wi_iconst hC 0 (by decide) d_MO_bit_25 ?_
      exact Jt1 false (by exact (Eq.trans eTt1 (Eq.trans (if_neg h1) (if_pos h2))))
    · skip
      refine wi_aload_n hC 0 d_MO_bit_12 rfl rfl ?_
      refine wg_MO_row hC wd_730 d_MO_bit_13 ?_
      refine wi_iload_n hC 1 d_MO_bit_16 rfl rfl ?_
      refine wi_inv (fun hv1 => ?_)
      refine wa_ld41 hC (vin_of (lo_n h1) (hi_n h2 hv1.2.2.2.2.2.2.1)) d_MO_bit_17 ?_
      refine wi_z_eq (b := (gZ τ 109 (jat a1))) hC 25 d_MO_bit_18 (by decide) (fun h3 => ?_) (fun h3 => ?_)
      · skip
        refine wi_iconst hC 0 (by decide) d_MO_bit_25 ?_
        exact Jt1 false (by exact (Eq.trans eTt1 (Eq.trans (if_neg h1) (Eq.trans (if_neg h2) (if_neg h3)))))
      · skip
        refine wi_iconst hC 1 (by decide) d_MO_bit_21 ?_
        refine wi_goto hC 26 d_MO_bit_22 (by decide) ?_
        exact Jt1 true (by exact (Eq.trans eTt1 (Eq.trans (if_neg h1) (Eq.trans (if_neg h2) (if_pos h3)))))
theorem k_MO_bit {p : Program} {l : Launch} {e : Env} {R : Room} {s : State} {m : MethodId} {args : Array Value} {below : List Frame} {meth : Method} {c : Code} {Q : State → Prop} {E : Ev} {nL pc index : Nat} {lv : List (Nat × Value)} {rest : List Value} {cc : ByteArray} {own : String} {σ τ : St} {q : Int64} {a1 : Int32} (hC : Cx p s m args c cc nL own E)   (hl : Cond.methodLink own index y_MO_bit ∈ WL) (hR : 0 + 1 ≤ R.frames ∧ 8 + (2 + 11) + 0 ≤ R.locals) (hs8 : (rest.map fun v => v.category).sum ≤ 8) (d : decode cc pc = .ok (.invokevirtual index, 3)) (k : WS p l e R s m args below meth c Q E nL (pc + 3) lv ((.int (bI (f_MO_bit τ a1))) :: rest) (σ, τ, q)) : WS p l e R s m args below meth c Q E nL pc lv (.int a1 :: .ref 35 :: rest) (σ, τ, q) := by
  exact wi_callV hC (n := 1) (vs := [.int a1]) (rest := rest) 35 11 (by decide) rfl rfl rfl (c_MO_bit l E σ τ q a1 ) (by decide +kernel) wd_743 wd_662 wd_744 wd_745 ⟨rfl, rfl⟩ rfl rfl hl hR hs8 d k
set_option maxRecDepth 100000 in
set_option maxHeartbeats 400000 in
theorem c_MO_rest (l : Launch) (E : Ev) (σ τ : St) (q : Int64) (a1 : Int32)  : MF l y_MO_rest prog_14_method_20_code 4 (some .boolean) { frames := 0, cells := 0, slots := 0, locals := 0 } E [.ref 35, .int a1] (σ, τ, q) (some (.int (bI (f_MO_rest τ a1)))) (σ, τ, q) := by
  refine MF_intro (lv0 := [(0, .ref 35), (1, .int a1)]) (by decide) wd_746 (Nat.le_of_ble_eq_true rfl) rfl ?_
  intro p e s m args below meth c Q hC hr hk hQ
  replace hC : Cx p s m args c prog_14_method_20_code 4 "PartnerStackModel$RealOperationsModel" E := hC
  refine wi_aload_n hC 0 d_MO_rest_0 rfl rfl ?_
  refine wg_MO_more hC wd_729 d_MO_rest_1 ?_
  refine wi_nmZ (fun v1 e_v1 => ?_)
  refine wi_istore_n hC [(2, .int (bI v1)), (0, .ref 35), (1, .int a1)] d_MO_rest_4 rfl (by decide) rfl ?_
  refine wi_iconst hC 0 (by decide) d_MO_rest_5 ?_
  refine wi_istore_n hC [(3, .int 0), (2, .int (bI v1)), (0, .ref 35), (1, .int a1)] d_MO_rest_6 rfl (by decide) rfl ?_
  refine wi_loop ((b_MO_rest_7 τ a1)) (fun t2 => 0 ≤ (t2.1).toInt) (fun t2 => [(3, .int t2.1), (2, .int (bI t2.2)), (0, .ref 35), (1, .int a1)]) (fun t2 => (σ, τ, q)) 45 ?_ (up_inv (b := (b_MO_rest_7 τ a1)) (fun t => t.1) a1 0 (st_b_MO_rest_7 τ a1)) (upf a1 0) (0, v1) (show (0 : Int) ≤ (0 : Int32).toInt by decide) (up_halt (b := (b_MO_rest_7 τ a1)) (fun t => t.1) a1 (st_b_MO_rest_7 τ a1) (0, v1)) ?_
  · intro t2 hi_t2 hc_t2 hx_t2
    refine wi_iload_n hC 0 d_MO_rest_7 rfl rfl ?_
    refine wi_iload_n hC 3 d_MO_rest_8 rfl rfl ?_
    refine wi_icmp_ge hC 45 d_MO_rest_9 (by decide) (fun h1 => ?_) (fun h1 => ?_)
    · skip
      exact hx_t2 (t2.1, t2.2) (by exact (if_pos h1))
    · skip
      refine wi_iload_n hC 0 d_MO_rest_12 rfl rfl ?_
      refine wi_aload_n hC 2 d_MO_rest_13 rfl rfl ?_
      refine wg_MO_size hC wd_727 d_MO_rest_14 ?_
      refine wi_icmp_ge hC 45 d_MO_rest_17 (by decide) (fun h2 => ?_) (fun h2 => ?_)
      · skip
        exact hx_t2 (t2.1, t2.2) (by exact (Eq.trans (if_neg h1) (if_pos h2)))
      · skip
        refine wi_iload_n hC 1 d_MO_rest_20 rfl rfl ?_
        obtain ⟨Tt3, eTt3⟩ : ∃ y : Bool, y = (
                if t2.2 = true then
                  true
                else
                  if gZ τ 109 (jat t2.1) = true then
                    true
                  else
                    false) := ⟨_, rfl⟩
        have Jt3 : ∀ (t3 : Bool), Tt3 = t3 → WS p l e { frames := 0, cells := 0, slots := 0, locals := 0 } s m args below meth c Q E 4 38 [(3, .int t2.1), (2, .int (bI t2.2)), (0, .ref 35), (1, .int a1)] [.int (bI t3)] (σ, τ, q) := by
          intro t3  e_t3
          rw [eTt3] at e_t3
          refine wi_istore_n hC [(2, .int (bI t3)), (3, .int t2.1), (0, .ref 35), (1, .int a1)] d_MO_rest_38 rfl (by decide) rfl ?_
          obtain ⟨v2, e_v2⟩ : ∃ y : Int32, t2.1 + 1 = y := ⟨_, rfl⟩
          refine wi_iinc hC 1 v2 [(3, .int v2), (2, .int (bI t3)), (0, .ref 35), (1, .int a1)] d_MO_rest_39 rfl (by rw [← e_v2]; rfl) (by decide) rfl ?_
          refine wi_goto hC 7 d_MO_rest_42 (by decide) ?_
          exact hc_t2 (v2, t3) (by subst e_v2; subst e_t3; exact (Eq.trans (if_neg h1) (if_neg h2)))
        refine wi_z_ne (b := t2.2) hC 33 d_MO_rest_21 (by decide) (fun h3 => ?_) (fun h3 => ?_)
        · skip
          refine wi_iconst hC 1 (by decide) d_MO_rest_33 ?_
          refine wi_goto hC 38 d_MO_rest_34 (by decide) ?_
          exact Jt3 true (by exact (Eq.trans eTt3 (if_pos h3)))
        · skip
          refine wi_aload_n hC 2 d_MO_rest_24 rfl rfl ?_
          refine wg_MO_row hC wd_730 d_MO_rest_25 ?_
          refine wi_iload_n hC 0 d_MO_rest_28 rfl rfl ?_
          refine wi_inv (fun hv1 => ?_)
          refine wa_ld41 hC (vin_of hi_t2 (hi_n h2 hv1.2.2.2.2.2.2.1)) d_MO_rest_29 ?_
          refine wi_z_eq (b := (gZ τ 109 (jat t2.1))) hC 37 d_MO_rest_30 (by decide) (fun h4 => ?_) (fun h4 => ?_)
          · skip
            refine wi_iconst hC 0 (by decide) d_MO_rest_37 ?_
            exact Jt3 false (by exact (Eq.trans eTt3 (Eq.trans (if_neg h3) (if_neg h4))))
          · skip
            refine wi_iconst hC 1 (by decide) d_MO_rest_33 ?_
            refine wi_goto hC 38 d_MO_rest_34 (by decide) ?_
            exact Jt3 true (by exact (Eq.trans eTt3 (Eq.trans (if_neg h3) (if_pos h4))))
  obtain ⟨t1, e_t1⟩ : ∃ y : Int32 × Bool, lpn ((b_MO_rest_7 τ a1)) (upf a1 0) (0, v1) = y := ⟨_, rfl⟩
  rw [e_t1]
  refine wi_iload_n hC 1 d_MO_rest_45 rfl rfl ?_
  have hf : f_MO_rest τ a1 = t1.2 := by subst e_t1; subst e_v1; exact rfl
  exact wi_zret hC hr hk d_MO_rest_46 rfl (congrArg (fun z => some (Value.int (bI z))) hf) rfl hQ
theorem k_MO_rest {p : Program} {l : Launch} {e : Env} {R : Room} {s : State} {m : MethodId} {args : Array Value} {below : List Frame} {meth : Method} {c : Code} {Q : State → Prop} {E : Ev} {nL pc index : Nat} {lv : List (Nat × Value)} {rest : List Value} {cc : ByteArray} {own : String} {σ τ : St} {q : Int64} {a1 : Int32} (hC : Cx p s m args c cc nL own E)   (hl : Cond.methodLink own index y_MO_rest ∈ WL) (hR : 0 + 1 ≤ R.frames ∧ 8 + (4 + 11) + 0 ≤ R.locals) (hs8 : (rest.map fun v => v.category).sum ≤ 8) (d : decode cc pc = .ok (.invokevirtual index, 3)) (k : WS p l e R s m args below meth c Q E nL (pc + 3) lv ((.int (bI (f_MO_rest τ a1))) :: rest) (σ, τ, q)) : WS p l e R s m args below meth c Q E nL pc lv (.int a1 :: .ref 35 :: rest) (σ, τ, q) := by
  exact wi_callV hC (n := 1) (vs := [.int a1]) (rest := rest) 35 11 (by decide) rfl rfl rfl (c_MO_rest l E σ τ q a1 ) (by decide +kernel) wd_746 wd_662 wd_747 wd_748 ⟨rfl, rfl⟩ rfl rfl hl hR hs8 d k
set_option maxRecDepth 100000 in
set_option maxHeartbeats 400000 in
theorem c_MO_times (l : Launch) (E : Ev) (σ τ : St) (q : Int64) (a1 : Int32) (a2 : Bool)  : MF l y_MO_times prog_14_method_21_code 10 (some .long) { frames := 1, cells := 0, slots := 0, locals := 23 } E [.ref 35, .int a1, .int (bI a2)] (σ, τ, q) (some (.long ((f_MO_times τ a1 a2).1))) (σ, (f_MO_times τ a1 a2).2, q) := by
  refine MF_intro (lv0 := [(0, .ref 35), (1, .int a1), (2, .int (bI a2))]) (by decide) wd_753 (Nat.le_of_ble_eq_true rfl) rfl ?_
  intro p e s m args below meth c Q hC hr hk hQ
  replace hC : Cx p s m args c prog_14_method_21_code 10 "PartnerStackModel$RealOperationsModel" E := hC
  refine wi_iload_n hC 1 d_MO_times_0 rfl rfl ?_
  refine wi_aload_n hC 0 d_MO_times_1 rfl rfl ?_
  refine wg_MO_unit hC wd_728 d_MO_times_2 ?_
  refine wi_isub hC d_MO_times_5 ?_
  refine wi_nmI (fun v1 e_v1 => ?_)
  refine wi_istore_n hC [(3, .int v1), (0, .ref 35), (1, .int a1), (2, .int (bI a2))] d_MO_times_6 rfl (by decide) rfl ?_
  refine wi_lconst hC 0 (by decide) d_MO_times_7 ?_
  refine wi_lstore hC [(4, .long 0), (3, .int v1), (0, .ref 35), (1, .int a1), (2, .int (bI a2))] d_MO_times_8 (by decide) rfl ?_
  refine wi_bipush hC 63 (by decide) d_MO_times_10 ?_
  refine wi_istore hC [(6, .int 63), (4, .long 0), (3, .int v1), (0, .ref 35), (1, .int a1), (2, .int (bI a2))] d_MO_times_12 (by decide) rfl ?_
  refine wi_loop ((b_MO_times_14 τ v1)) (fun t2 => (t2.1).toInt ≤ 63) (fun t2 => [(6, .int t2.1), (4, .long t2.2), (3, .int v1), (0, .ref 35), (1, .int a1), (2, .int (bI a2))]) (fun t2 => (σ, τ, q)) 50 ?_ (dn_inv (b := (b_MO_times_14 τ v1)) (fun t => t.1) 63 (st_b_MO_times_14 τ v1)) (dnf 63) (63, 0) (show (63 : Int32).toInt ≤ 63 by decide) (dn_halt (b := (b_MO_times_14 τ v1)) (fun t => t.1) (st_b_MO_times_14 τ v1) (63, 0)) ?_
  · intro t2 hi_t2 hc_t2 hx_t2
    refine wi_iload hC 0 d_MO_times_14 rfl ?_
    refine wi_if_lt hC 50 d_MO_times_16 (by decide) (fun h1 => ?_) (fun h1 => ?_)
    · skip
      exact hx_t2 (t2.1, t2.2) (by exact (if_pos h1))
    · skip
      refine wi_ldc2 hC wd_749 d_MO_times_19 ?_
      refine wi_lload hC 1 d_MO_times_22 rfl ?_
      refine wi_lmul hC d_MO_times_24 ?_
      refine wi_aload_n hC 3 d_MO_times_25 rfl rfl ?_
      refine wi_iload_n hC 2 d_MO_times_26 rfl rfl ?_
      refine wi_iload hC 0 d_MO_times_27 rfl ?_
      refine wi_iadd hC d_MO_times_29 ?_
      refine k_MO_bit hC  wd_750 (by decide) (Nat.le_of_ble_eq_true rfl) d_MO_times_30 ?_
      obtain ⟨Tt3, eTt3⟩ : ∃ y : Int64, y = (
              if f_MO_bit τ (v1 + t2.1) = true then
                1
              else
                0) := ⟨_, rfl⟩
      have Jt3 : ∀ (t3 : Int64), Tt3 = t3 → WS p l e { frames := 1, cells := 0, slots := 0, locals := 23 } s m args below meth c Q E 10 41 [(6, .int t2.1), (4, .long t2.2), (3, .int v1), (0, .ref 35), (1, .int a1), (2, .int (bI a2))] [.long t3, .long (2 * t2.2)] (σ, τ, q) := by
        intro t3  e_t3
        rw [eTt3] at e_t3
        refine wi_ladd hC d_MO_times_41 ?_
        refine wi_nmJ (fun v2 e_v2 => ?_)
        refine wi_lstore hC [(4, .long v2), (6, .int t2.1), (3, .int v1), (0, .ref 35), (1, .int a1), (2, .int (bI a2))] d_MO_times_42 (by decide) rfl ?_
        obtain ⟨v3, e_v3⟩ : ∃ y : Int32, t2.1 + (-1) = y := ⟨_, rfl⟩
        refine wi_iinc hC 1 v3 [(6, .int v3), (4, .long v2), (3, .int v1), (0, .ref 35), (1, .int a1), (2, .int (bI a2))] d_MO_times_44 rfl (by rw [← e_v3]; rfl) (by decide) rfl ?_
        refine wi_goto hC 14 d_MO_times_47 (by decide) ?_
        exact hc_t2 (v3, v2) (by subst e_v3; subst e_v2; subst e_t3; exact (if_neg h1))
      refine wi_z_eq (b := (f_MO_bit τ (v1 + t2.1))) hC 40 d_MO_times_33 (by decide) (fun h2 => ?_) (fun h2 => ?_)
      · skip
        refine wi_lconst hC 0 (by decide) d_MO_times_40 ?_
        exact Jt3 0 (by exact (Eq.trans eTt3 (if_neg h2)))
      · skip
        refine wi_lconst hC 1 (by decide) d_MO_times_36 ?_
        refine wi_goto hC 41 d_MO_times_37 (by decide) ?_
        exact Jt3 1 (by exact (Eq.trans eTt3 (if_pos h2)))
  obtain ⟨t1, e_t1⟩ : ∃ y : Int32 × Int64, lpn ((b_MO_times_14 τ v1)) (dnf 63) (63, 0) = y := ⟨_, rfl⟩
  rw [e_t1]
  refine wi_aload_n hC 3 d_MO_times_50 rfl rfl ?_
  refine wi_iload_n hC 2 d_MO_times_51 rfl rfl ?_
  refine wi_iconst hC 1 (by decide) d_MO_times_52 ?_
  refine wi_isub hC d_MO_times_53 ?_
  refine k_MO_bit hC  wd_750 (by decide) (Nat.le_of_ble_eq_true rfl) d_MO_times_54 ?_
  refine wi_nmZ (fun v4 e_v4 => ?_)
  refine wi_istore hC [(6, .int (bI v4)), (4, .long t1.2), (3, .int v1), (0, .ref 35), (1, .int a1), (2, .int (bI a2))] d_MO_times_57 (by decide) rfl ?_
  refine wi_aload_n hC 3 d_MO_times_59 rfl rfl ?_
  refine wi_iload_n hC 2 d_MO_times_60 rfl rfl ?_
  refine wi_iconst hC 1 (by decide) d_MO_times_61 ?_
  refine wi_isub hC d_MO_times_62 ?_
  refine k_MO_rest hC  wd_751 (by decide) (Nat.le_of_ble_eq_true rfl) d_MO_times_63 ?_
  refine wi_nmZ (fun v5 e_v5 => ?_)
  refine wi_istore hC [(7, .int (bI v5)), (6, .int (bI v4)), (4, .long t1.2), (3, .int v1), (0, .ref 35), (1, .int a1), (2, .int (bI a2))] d_MO_times_66 (by decide) rfl ?_
  refine wi_aload_n hC 4 d_MO_times_68 rfl rfl ?_
  refine wi_iload hC 1 d_MO_times_69 rfl ?_
  obtain ⟨Tt4, eTt4⟩ : ∃ y : Bool, y = (
          if v4 = true then
            true
          else
            if v5 = true then
              true
            else
              false) := ⟨_, rfl⟩
  have Jt4 : ∀ (t4 : Bool), Tt4 = t4 → WS p l e { frames := 1, cells := 0, slots := 0, locals := 23 } s m args below meth c Q E 10 84 [(7, .int (bI v5)), (6, .int (bI v4)), (4, .long t1.2), (3, .int v1), (0, .ref 35), (1, .int a1), (2, .int (bI a2))] [.int (bI t4), .ref 35] (σ, τ, q) := by
    intro t4  e_t4
    rw [eTt4] at e_t4
    refine wp_MO_lossy hC t4 rfl wd_752 d_MO_times_84 ?_
    refine wi_nmM (fun s1 e_s1 => ?_)
    refine wi_aload_n hC 4 d_MO_times_87 rfl rfl ?_
    refine wg_MO_word hC wd_660 d_MO_times_88 ?_
    refine wi_sipush hC 1024 (by decide) d_MO_times_91 ?_
    refine wi_idiv hC (by decide) d_MO_times_94 ?_
    refine wi_iconst hC 4 (by decide) d_MO_times_95 ?_
    refine wi_irem hC (by decide) d_MO_times_96 ?_
    refine wi_nmI (fun v6 e_v6 => ?_)
    refine wi_istore hC [(8, .int v6), (7, .int (bI v5)), (6, .int (bI v4)), (4, .long t1.2), (3, .int v1), (0, .ref 35), (1, .int a1), (2, .int (bI a2))] d_MO_times_97 (by decide) rfl ?_
    refine wi_iload hC 0 d_MO_times_99 rfl ?_
    obtain ⟨Tt5, eTt5⟩ : ∃ y : Bool, y = (
            if v6 = 0 then
              if v4 = true then
                if v5 = true then
                  true
                else
                  if f_MO_bit s1 v1 = true then
                    true
                  else
                    false
              else
                false
            else
              if v6 = 1 then
                if a2 = true then
                  if gZ s1 25 35 = true then
                    true
                  else
                    false
                else
                  false
              else
                if v6 = 2 then
                  if a2 = true then
                    false
                  else
                    if gZ s1 25 35 = true then
                      true
                    else
                      false
                else
                  false) := ⟨_, rfl⟩
    have Jt5 : ∀ (t5 : Bool), Tt5 = t5 → WS p l e { frames := 1, cells := 0, slots := 0, locals := 23 } s m args below meth c Q E 10 177 [(8, .int v6), (7, .int (bI v5)), (6, .int (bI v4)), (4, .long t1.2), (3, .int v1), (0, .ref 35), (1, .int a1), (2, .int (bI a2))] [.int (bI t5)] (σ, s1, q) := by
      intro t5  e_t5
      rw [eTt5] at e_t5
      refine wi_istore hC [(9, .int (bI t5)), (8, .int v6), (7, .int (bI v5)), (6, .int (bI v4)), (4, .long t1.2), (3, .int v1), (0, .ref 35), (1, .int a1), (2, .int (bI a2))] d_MO_times_177 (by decide) rfl ?_
      refine wi_iload hC 0 d_MO_times_179 rfl ?_
      obtain ⟨Tt6, eTt6⟩ : ∃ y : Int64, y = (
              if t5 = true then
                t1.2 + 1
              else
                t1.2) := ⟨_, rfl⟩
      have Jt6 : ∀ (t6 : Int64), Tt6 = t6 → WS p l e { frames := 1, cells := 0, slots := 0, locals := 23 } s m args below meth c Q E 10 193 [(9, .int (bI t5)), (8, .int v6), (7, .int (bI v5)), (6, .int (bI v4)), (4, .long t1.2), (3, .int v1), (0, .ref 35), (1, .int a1), (2, .int (bI a2))] [.long t6] (σ, s1, q) := by
        intro t6  e_t6
        rw [eTt6] at e_t6
        have hf : f_MO_times τ a1 a2 = (t6, s1) := by subst e_t6; subst e_t5; subst e_v6; subst e_s1; subst e_t4; subst e_v5; subst e_v4; subst e_t1; subst e_v1; exact rfl
        exact wi_lret hC hr hk d_MO_times_193 (congrArg (fun z => some (Value.long z.1)) hf) (congrArg (fun z => (σ, z.2, q)) hf).symm hQ
      refine wi_z_eq (b := t5) hC 191 d_MO_times_181 (by decide) (fun h15 => ?_) (fun h15 => ?_)
      · skip
        refine wi_lload hC 4 d_MO_times_191 rfl ?_
        exact Jt6 t1.2 (by exact (Eq.trans eTt6 (if_neg h15)))
      · skip
        refine wi_lload hC 4 d_MO_times_184 rfl ?_
        refine wi_lconst hC 1 (by decide) d_MO_times_186 ?_
        refine wi_ladd hC d_MO_times_187 ?_
        refine wi_goto hC 193 d_MO_times_188 (by decide) ?_
        exact Jt6 (t1.2 + 1) (by exact (Eq.trans eTt6 (if_pos h15)))
    refine wi_if_ne hC 130 d_MO_times_101 (by decide) (fun h5 => ?_) (fun h5 => ?_)
    · skip
      refine wi_iload hC 0 d_MO_times_130 rfl ?_
      refine wi_iconst hC 1 (by decide) d_MO_times_132 ?_
      refine wi_icmp_ne hC 155 d_MO_times_133 (by decide) (fun h6 => ?_) (fun h6 => ?_)
      · skip
        refine wi_iload hC 0 d_MO_times_155 rfl ?_
        refine wi_iconst hC 2 (by decide) d_MO_times_157 ?_
        refine wi_icmp_ne hC 176 d_MO_times_158 (by decide) (fun h7 => ?_) (fun h7 => ?_)
        · skip
          refine wi_iconst hC 0 (by decide) d_MO_times_176 ?_
          exact Jt5 false (by exact (Eq.trans eTt5 (Eq.trans (if_neg h5) (Eq.trans (if_neg h6) (if_neg h7)))))
        · skip
          refine wi_iload_n hC 7 d_MO_times_161 rfl rfl ?_
          refine wi_z_ne (b := a2) hC 176 d_MO_times_162 (by decide) (fun h8 => ?_) (fun h8 => ?_)
          · skip
            refine wi_iconst hC 0 (by decide) d_MO_times_176 ?_
            exact Jt5 false (by exact (Eq.trans eTt5 (Eq.trans (if_neg h5) (Eq.trans (if_neg h6) (Eq.trans (if_pos h7) (if_pos h8))))))
          · skip
            refine wi_aload_n hC 5 d_MO_times_165 rfl rfl ?_
            refine wg_MO_lossy hC wd_752 d_MO_times_166 ?_
            refine wi_z_eq (b := (gZ s1 25 35)) hC 176 d_MO_times_169 (by decide) (fun h9 => ?_) (fun h9 => ?_)
            · skip
              refine wi_iconst hC 0 (by decide) d_MO_times_176 ?_
              exact Jt5 false (by exact (Eq.trans eTt5 (Eq.trans (if_neg h5) (Eq.trans (if_neg h6) (Eq.trans (if_pos h7) (Eq.trans (if_neg h8) (if_neg h9)))))))
            · skip
              refine wi_iconst hC 1 (by decide) d_MO_times_172 ?_
              refine wi_goto hC 177 d_MO_times_173 (by decide) ?_
              exact Jt5 true (by exact (Eq.trans eTt5 (Eq.trans (if_neg h5) (Eq.trans (if_neg h6) (Eq.trans (if_pos h7) (Eq.trans (if_neg h8) (if_pos h9)))))))
      · skip
        refine wi_iload_n hC 7 d_MO_times_136 rfl rfl ?_
        refine wi_z_eq (b := a2) hC 151 d_MO_times_137 (by decide) (fun h10 => ?_) (fun h10 => ?_)
        · skip
          refine wi_iconst hC 0 (by decide) d_MO_times_151 ?_
          refine wi_goto hC 177 d_MO_times_152 (by decide) ?_
          exact Jt5 false (by exact (Eq.trans eTt5 (Eq.trans (if_neg h5) (Eq.trans (if_pos h6) (if_neg h10)))))
        · skip
          refine wi_aload_n hC 5 d_MO_times_140 rfl rfl ?_
          refine wg_MO_lossy hC wd_752 d_MO_times_141 ?_
          refine wi_z_eq (b := (gZ s1 25 35)) hC 151 d_MO_times_144 (by decide) (fun h11 => ?_) (fun h11 => ?_)
          · skip
            refine wi_iconst hC 0 (by decide) d_MO_times_151 ?_
            refine wi_goto hC 177 d_MO_times_152 (by decide) ?_
            exact Jt5 false (by exact (Eq.trans eTt5 (Eq.trans (if_neg h5) (Eq.trans (if_pos h6) (Eq.trans (if_pos h10) (if_neg h11))))))
          · skip
            refine wi_iconst hC 1 (by decide) d_MO_times_147 ?_
            refine wi_goto hC 177 d_MO_times_148 (by decide) ?_
            exact Jt5 true (by exact (Eq.trans eTt5 (Eq.trans (if_neg h5) (Eq.trans (if_pos h6) (Eq.trans (if_pos h10) (if_pos h11))))))
    · skip
      refine wi_iload hC 2 d_MO_times_104 rfl ?_
      refine wi_z_eq (b := v4) hC 126 d_MO_times_106 (by decide) (fun h12 => ?_) (fun h12 => ?_)
      · skip
        refine wi_iconst hC 0 (by decide) d_MO_times_126 ?_
        refine wi_goto hC 177 d_MO_times_127 (by decide) ?_
        exact Jt5 false (by exact (Eq.trans eTt5 (Eq.trans (if_pos h5) (if_neg h12))))
      · skip
        refine wi_iload hC 1 d_MO_times_109 rfl ?_
        refine wi_z_ne (b := v5) hC 122 d_MO_times_111 (by decide) (fun h13 => ?_) (fun h13 => ?_)
        · skip
          refine wi_iconst hC 1 (by decide) d_MO_times_122 ?_
          refine wi_goto hC 177 d_MO_times_123 (by decide) ?_
          exact Jt5 true (by exact (Eq.trans eTt5 (Eq.trans (if_pos h5) (Eq.trans (if_pos h12) (if_pos h13)))))
        · skip
          refine wi_aload_n hC 5 d_MO_times_114 rfl rfl ?_
          refine wi_iload_n hC 4 d_MO_times_115 rfl rfl ?_
          refine k_MO_bit hC  wd_750 (by decide) (Nat.le_of_ble_eq_true rfl) d_MO_times_116 ?_
          refine wi_z_eq (b := (f_MO_bit s1 v1)) hC 126 d_MO_times_119 (by decide) (fun h14 => ?_) (fun h14 => ?_)
          · skip
            refine wi_iconst hC 0 (by decide) d_MO_times_126 ?_
            refine wi_goto hC 177 d_MO_times_127 (by decide) ?_
            exact Jt5 false (by exact (Eq.trans eTt5 (Eq.trans (if_pos h5) (Eq.trans (if_pos h12) (Eq.trans (if_neg h13) (if_neg h14))))))
          · skip
            refine wi_iconst hC 1 (by decide) d_MO_times_122 ?_
            refine wi_goto hC 177 d_MO_times_123 (by decide) ?_
            exact Jt5 true (by exact (Eq.trans eTt5 (Eq.trans (if_pos h5) (Eq.trans (if_pos h12) (Eq.trans (if_neg h13) (if_pos h14))))))
  refine wi_z_ne (b := v4) hC 79 d_MO_times_71 (by decide) (fun h3 => ?_) (fun h3 => ?_)
  · skip
    refine wi_iconst hC 1 (by decide) d_MO_times_79 ?_
    refine wi_goto hC 84 d_MO_times_80 (by decide) ?_
    exact Jt4 true (by exact (Eq.trans eTt4 (if_pos h3)))
  · skip
    refine wi_iload hC 0 d_MO_times_74 rfl ?_
    refine wi_z_eq (b := v5) hC 83 d_MO_times_76 (by decide) (fun h4 => ?_) (fun h4 => ?_)
    · skip
      refine wi_iconst hC 0 (by decide) d_MO_times_83 ?_
      exact Jt4 false (by exact (Eq.trans eTt4 (Eq.trans (if_neg h3) (if_neg h4))))
    · skip
      refine wi_iconst hC 1 (by decide) d_MO_times_79 ?_
      refine wi_goto hC 84 d_MO_times_80 (by decide) ?_
      exact Jt4 true (by exact (Eq.trans eTt4 (Eq.trans (if_neg h3) (if_pos h4))))
theorem k_MO_times {p : Program} {l : Launch} {e : Env} {R : Room} {s : State} {m : MethodId} {args : Array Value} {below : List Frame} {meth : Method} {c : Code} {Q : State → Prop} {E : Ev} {nL pc index : Nat} {lv : List (Nat × Value)} {rest : List Value} {cc : ByteArray} {own : String} {σ τ : St} {q : Int64} {a1 : Int32} (hC : Cx p s m args c cc nL own E) {x_a2 : Int32} (a2 : Bool) (hx_a2 : x_a2 = bI a2)  (hl : Cond.methodLink own index y_MO_times ∈ WL) (hR : 1 + 1 ≤ R.frames ∧ 8 + (10 + 11) + 23 ≤ R.locals) (hs8 : (rest.map fun v => v.category).sum ≤ 8) (d : decode cc pc = .ok (.invokevirtual index, 3)) (k : WS p l e R s m args below meth c Q E nL (pc + 3) lv ((.long ((f_MO_times τ a1 a2).1)) :: rest) (σ, (f_MO_times τ a1 a2).2, q)) : WS p l e R s m args below meth c Q E nL pc lv (.int x_a2 :: .int a1 :: .ref 35 :: rest) (σ, τ, q) := by
  subst hx_a2
  exact wi_callV hC (n := 2) (vs := [.int a1, .int (bI a2)]) (rest := rest) 35 11 (by decide) rfl rfl rfl (c_MO_times l E σ τ q a1 a2 ) (by decide +kernel) wd_753 wd_662 wd_754 wd_755 ⟨rfl, rfl⟩ rfl rfl hl hR hs8 d k
set_option maxRecDepth 100000 in
set_option maxHeartbeats 400000 in
theorem c_MO_put (l : Launch) (E : Ev) (σ τ : St) (q : Int64) (a1 : Bool) (a2 : Int64) (a3 : Bool) (a4 : Int32) (a5 : Int32)  : MF l y_MO_put prog_14_method_22_code 11 none { frames := 1, cells := 0, slots := 0, locals := 24 } E [.ref 35, .int (bI a1), .long a2, .int (bI a3), .int a4, .int a5] (σ, τ, q) none (σ, (f_MO_put τ a1 a2 a3 a4 a5), q) := by
  refine MF_intro (lv0 := [(0, .ref 35), (1, .int (bI a1)), (2, .long a2), (4, .int (bI a3)), (5, .int a4), (6, .int a5)]) (by decide) wd_758 (Nat.le_of_ble_eq_true rfl) rfl ?_
  intro p e s m args below meth c Q hC hr hk hQ
  replace hC : Cx p s m args c prog_14_method_22_code 11 "PartnerStackModel$RealOperationsModel" E := hC
  refine wi_lload_n hC 2 d_MO_put_0 rfl rfl ?_
  refine wi_lconst hC 0 (by decide) d_MO_put_1 ?_
  refine wi_lcmp_ne hC 19 d_MO_put_2 d_MO_put_3 (by decide) (fun h1 => ?_) (fun h1 => ?_)
  · skip
    refine wi_bipush hC 64 (by decide) d_MO_put_19 ?_
    refine wi_istore hC [(7, .int 64), (0, .ref 35), (1, .int (bI a1)), (2, .long a2), (4, .int (bI a3)), (5, .int a4), (6, .int a5)] d_MO_put_21 (by decide) rfl ?_
    refine wi_iload hC 4 d_MO_put_23 rfl ?_
    obtain ⟨Tt1, eTt1⟩ : ∃ y : Int32, y = (
            if a3 = true then
              64
            else
              let t2 : Int32 := lpn ((b_MO_put_32 a2)) (65) 63
              t2) := ⟨_, rfl⟩
    have Jt1 : ∀ (t1 : Int32), Tt1 = t1 → WS p l e { frames := 1, cells := 0, slots := 0, locals := 24 } s m args below meth c Q E 11 49 [(7, .int t1), (0, .ref 35), (1, .int (bI a1)), (2, .long a2), (4, .int (bI a3)), (5, .int a4), (6, .int a5)] [] (σ, τ, q) := by
      intro t1  e_t1
      rw [eTt1] at e_t1
      refine wi_iload hC 5 d_MO_put_49 rfl ?_
      refine wi_iload hC 0 d_MO_put_51 rfl ?_
      refine wi_iadd hC d_MO_put_53 ?_
      refine wi_sipush hC 16383 (by decide) d_MO_put_54 ?_
      refine wi_iadd hC d_MO_put_57 ?_
      refine wi_iload hC 6 d_MO_put_58 rfl ?_
      refine wi_iadd hC d_MO_put_60 ?_
      refine wi_nmI (fun v2 e_v2 => ?_)
      refine wi_istore hC [(8, .int v2), (7, .int t1), (0, .ref 35), (1, .int (bI a1)), (2, .long a2), (4, .int (bI a3)), (5, .int a4), (6, .int a5)] d_MO_put_61 (by decide) rfl ?_
      refine wi_iload hC 5 d_MO_put_63 rfl ?_
      obtain ⟨Tt4, eTt4⟩ : ∃ y : Int64, y = (
              if a3 = true then
                (-9223372036854775808)
              else
                jlshl a2 (63 - t1)) := ⟨_, rfl⟩
      have Jt4 : ∀ (t4 : Int64), Tt4 = t4 → WS p l e { frames := 1, cells := 0, slots := 0, locals := 24 } s m args below meth c Q E 11 81 [(8, .int v2), (7, .int t1), (0, .ref 35), (1, .int (bI a1)), (2, .long a2), (4, .int (bI a3)), (5, .int a4), (6, .int a5)] [.long t4] (σ, τ, q) := by
        intro t4  e_t4
        rw [eTt4] at e_t4
        refine wi_lstore hC [(9, .long t4), (8, .int v2), (7, .int t1), (0, .ref 35), (1, .int (bI a1)), (2, .long a2), (4, .int (bI a3)), (5, .int a4), (6, .int a5)] d_MO_put_81 (by decide) rfl ?_
        refine wi_iload hC 1 d_MO_put_83 rfl ?_
        obtain ⟨Tt5, eTt5⟩ : ∃ y : St, y = (
                if v2 ≤ 0 then
                  let s1 : St := f_MO_answer τ a1 0 (jlshl a2 (a4 + 16445))
                  s1
                else
                  let s2 : St := f_MO_answer τ a1 v2 t4
                  s2) := ⟨_, rfl⟩
        have Jt5 : ∀ (t5 : St), Tt5 = t5 → WS p l e { frames := 1, cells := 0, slots := 0, locals := 24 } s m args below meth c Q E 11 114 [(9, .long t4), (8, .int v2), (7, .int t1), (0, .ref 35), (1, .int (bI a1)), (2, .long a2), (4, .int (bI a3)), (5, .int a4), (6, .int a5)] [] (σ, t5, q) := by
          intro t5  e_t5
          rw [eTt5] at e_t5
          have hf : f_MO_put τ a1 a2 a3 a4 a5 = t5 := by subst e_t5; subst e_t4; subst e_v2; subst e_t1; exact (if_neg h1)
          exact wi_vret hC hr hk d_MO_put_114 rfl (congrArg (fun z => (σ, z, q)) hf).symm hQ
        refine wi_if_le hC 100 d_MO_put_85 (by decide) (fun h5 => ?_) (fun h5 => ?_)
        · skip
          refine wi_aload_n hC 3 d_MO_put_100 rfl rfl ?_
          refine wi_iload_n hC 4 d_MO_put_101 rfl rfl ?_
          refine wi_iconst hC 0 (by decide) d_MO_put_102 ?_
          refine wi_lload_n hC 5 d_MO_put_103 rfl rfl ?_
          refine wi_iload hC 7 d_MO_put_104 rfl ?_
          refine wi_sipush hC 16445 (by decide) d_MO_put_106 ?_
          refine wi_iadd hC d_MO_put_109 ?_
          refine wi_lshl hC d_MO_put_110 ?_
          refine k_MO_answer hC a1 rfl wd_757 (by decide) (Nat.le_of_ble_eq_true rfl) d_MO_put_111 ?_
          refine wi_nmM (fun s1 e_s1 => ?_)
          exact Jt5 s1 (by subst e_s1; exact (Eq.trans eTt5 (if_pos h5)))
        · skip
          refine wi_aload_n hC 3 d_MO_put_88 rfl rfl ?_
          refine wi_iload_n hC 4 d_MO_put_89 rfl rfl ?_
          refine wi_iload hC 1 d_MO_put_90 rfl ?_
          refine wi_lload hC 0 d_MO_put_92 rfl ?_
          refine k_MO_answer hC a1 rfl wd_757 (by decide) (Nat.le_of_ble_eq_true rfl) d_MO_put_94 ?_
          refine wi_nmM (fun s2 e_s2 => ?_)
          refine wi_goto hC 114 d_MO_put_97 (by decide) ?_
          exact Jt5 s2 (by subst e_s2; exact (Eq.trans eTt5 (if_neg h5)))
      refine wi_z_eq (b := a3) hC 74 d_MO_put_65 (by decide) (fun h4 => ?_) (fun h4 => ?_)
      · skip
        refine wi_lload_n hC 4 d_MO_put_74 rfl rfl ?_
        refine wi_bipush hC 63 (by decide) d_MO_put_75 ?_
        refine wi_iload hC 1 d_MO_put_77 rfl ?_
        refine wi_isub hC d_MO_put_79 ?_
        refine wi_lshl hC d_MO_put_80 ?_
        exact Jt4 (jlshl a2 (63 - t1)) (by exact (Eq.trans eTt4 (if_neg h4)))
      · skip
        refine wi_ldc2 hC wd_756 d_MO_put_68 ?_
        refine wi_goto hC 81 d_MO_put_71 (by decide) ?_
        exact Jt4 (-9223372036854775808) (by exact (Eq.trans eTt4 (if_pos h4)))
    refine wi_z_ne (b := a3) hC 49 d_MO_put_25 (by decide) (fun h2 => ?_) (fun h2 => ?_)
    · skip
      exact Jt1 64 (by exact (Eq.trans eTt1 (if_pos h2)))
    · skip
      refine wi_bipush hC 63 (by decide) d_MO_put_28 ?_
      refine wi_istore hC [(7, .int 63), (0, .ref 35), (1, .int (bI a1)), (2, .long a2), (4, .int (bI a3)), (5, .int a4), (6, .int a5)] d_MO_put_30 (by decide) rfl ?_
      refine wi_loop ((b_MO_put_32 a2)) (fun t3 => True) (fun t3 => [(7, .int t3), (0, .ref 35), (1, .int (bI a1)), (2, .long a2), (4, .int (bI a3)), (5, .int a4), (6, .int a5)]) (fun t3 => (σ, τ, q)) 49 ?_ (fun _ _ _ _ => trivial) (65) 63 trivial (bit_halt (w := a2) (by assumption) (b := (b_MO_put_32 a2)) (fun _ => rfl)) ?_
      · intro t3 hi_t3 hc_t3 hx_t3
        refine wi_lload_n hC 3 d_MO_put_32 rfl rfl ?_
        refine wi_iload hC 0 d_MO_put_33 rfl ?_
        refine wi_lshr hC d_MO_put_35 ?_
        refine wi_lconst hC 1 (by decide) d_MO_put_36 ?_
        refine wi_land hC d_MO_put_37 ?_
        refine wi_lconst hC 0 (by decide) d_MO_put_38 ?_
        refine wi_lcmp_ne hC 49 d_MO_put_39 d_MO_put_40 (by decide) (fun h3 => ?_) (fun h3 => ?_)
        · skip
          exact hx_t3 t3 (by exact (if_neg h3))
        · skip
          obtain ⟨v1, e_v1⟩ : ∃ y : Int32, t3 + (-1) = y := ⟨_, rfl⟩
          refine wi_iinc hC 0 v1 [(7, .int v1), (0, .ref 35), (1, .int (bI a1)), (2, .long a2), (4, .int (bI a3)), (5, .int a4), (6, .int a5)] d_MO_put_43 rfl (by rw [← e_v1]; rfl) (by decide) rfl ?_
          refine wi_goto hC 32 d_MO_put_46 (by decide) ?_
          exact hc_t3 v1 (by subst e_v1; exact (if_pos h3))
      obtain ⟨t2, e_t2⟩ : ∃ y : Int32, lpn ((b_MO_put_32 a2)) (65) 63 = y := ⟨_, rfl⟩
      rw [e_t2]
      exact Jt1 t2 (by subst e_t2; exact (Eq.trans eTt1 (if_neg h2)))
  · skip
    refine wi_iload hC 3 d_MO_put_6 rfl ?_
    refine wi_z_ne (b := a3) hC 19 d_MO_put_8 (by decide) (fun h6 => ?_) (fun h6 => ?_)
    · skip
      refine wi_bipush hC 64 (by decide) d_MO_put_19 ?_
      refine wi_istore hC [(7, .int 64), (0, .ref 35), (1, .int (bI a1)), (2, .long a2), (4, .int (bI a3)), (5, .int a4), (6, .int a5)] d_MO_put_21 (by decide) rfl ?_
      refine wi_iload hC 4 d_MO_put_23 rfl ?_
      refine wi_z_ne (b := a3) hC 49 d_MO_put_25 (by decide) (fun _ => ?_) (fun h7 => absurd h6 h7)
      refine wi_iload hC 5 d_MO_put_49 rfl ?_
      refine wi_iload hC 0 d_MO_put_51 rfl ?_
      refine wi_iadd hC d_MO_put_53 ?_
      refine wi_sipush hC 16383 (by decide) d_MO_put_54 ?_
      refine wi_iadd hC d_MO_put_57 ?_
      refine wi_iload hC 6 d_MO_put_58 rfl ?_
      refine wi_iadd hC d_MO_put_60 ?_
      refine wi_nmI (fun v3 e_v3 => ?_)
      refine wi_istore hC [(8, .int v3), (7, .int 64), (0, .ref 35), (1, .int (bI a1)), (2, .long a2), (4, .int (bI a3)), (5, .int a4), (6, .int a5)] d_MO_put_61 (by decide) rfl ?_
      refine wi_iload hC 5 d_MO_put_63 rfl ?_
      refine wi_z_eq (b := a3) hC 74 d_MO_put_65 (by decide) (fun h8 => absurd h6 h8) (fun _ => ?_)
      refine wi_ldc2 hC wd_756 d_MO_put_68 ?_
      refine wi_goto hC 81 d_MO_put_71 (by decide) ?_
      refine wi_lstore hC [(9, .long (-9223372036854775808)), (8, .int v3), (7, .int 64), (0, .ref 35), (1, .int (bI a1)), (2, .long a2), (4, .int (bI a3)), (5, .int a4), (6, .int a5)] d_MO_put_81 (by decide) rfl ?_
      refine wi_iload hC 1 d_MO_put_83 rfl ?_
      obtain ⟨Tt6, eTt6⟩ : ∃ y : St, y = (
              if v3 ≤ 0 then
                let s3 : St := f_MO_answer τ a1 0 (jlshl a2 (a4 + 16445))
                s3
              else
                let s4 : St := f_MO_answer τ a1 v3 (-9223372036854775808)
                s4) := ⟨_, rfl⟩
      have Jt6 : ∀ (t6 : St), Tt6 = t6 → WS p l e { frames := 1, cells := 0, slots := 0, locals := 24 } s m args below meth c Q E 11 114 [(9, .long (-9223372036854775808)), (8, .int v3), (7, .int 64), (0, .ref 35), (1, .int (bI a1)), (2, .long a2), (4, .int (bI a3)), (5, .int a4), (6, .int a5)] [] (σ, t6, q) := by
        intro t6  e_t6
        rw [eTt6] at e_t6
        have hf : f_MO_put τ a1 a2 a3 a4 a5 = t6 := by subst e_t6; subst e_v3; exact (Eq.trans (if_pos h1) (if_pos h6))
        exact wi_vret hC hr hk d_MO_put_114 rfl (congrArg (fun z => (σ, z, q)) hf).symm hQ
      refine wi_if_le hC 100 d_MO_put_85 (by decide) (fun h9 => ?_) (fun h9 => ?_)
      · skip
        refine wi_aload_n hC 3 d_MO_put_100 rfl rfl ?_
        refine wi_iload_n hC 4 d_MO_put_101 rfl rfl ?_
        refine wi_iconst hC 0 (by decide) d_MO_put_102 ?_
        refine wi_lload_n hC 5 d_MO_put_103 rfl rfl ?_
        refine wi_iload hC 7 d_MO_put_104 rfl ?_
        refine wi_sipush hC 16445 (by decide) d_MO_put_106 ?_
        refine wi_iadd hC d_MO_put_109 ?_
        refine wi_lshl hC d_MO_put_110 ?_
        refine k_MO_answer hC a1 rfl wd_757 (by decide) (Nat.le_of_ble_eq_true rfl) d_MO_put_111 ?_
        refine wi_nmM (fun s3 e_s3 => ?_)
        exact Jt6 s3 (by subst e_s3; exact (Eq.trans eTt6 (if_pos h9)))
      · skip
        refine wi_aload_n hC 3 d_MO_put_88 rfl rfl ?_
        refine wi_iload_n hC 4 d_MO_put_89 rfl rfl ?_
        refine wi_iload hC 1 d_MO_put_90 rfl ?_
        refine wi_lload hC 0 d_MO_put_92 rfl ?_
        refine k_MO_answer hC a1 rfl wd_757 (by decide) (Nat.le_of_ble_eq_true rfl) d_MO_put_94 ?_
        refine wi_nmM (fun s4 e_s4 => ?_)
        refine wi_goto hC 114 d_MO_put_97 (by decide) ?_
        exact Jt6 s4 (by subst e_s4; exact (Eq.trans eTt6 (if_neg h9)))
    · skip
      refine wi_aload_n hC 0 d_MO_put_11 rfl rfl ?_
      refine wi_iload_n hC 1 d_MO_put_12 rfl rfl ?_
      refine wi_iconst hC 0 (by decide) d_MO_put_13 ?_
      refine wi_lconst hC 0 (by decide) d_MO_put_14 ?_
      refine k_MO_answer hC a1 rfl wd_757 (by decide) (Nat.le_of_ble_eq_true rfl) d_MO_put_15 ?_
      refine wi_nmM (fun s5 e_s5 => ?_)
      have hf : f_MO_put τ a1 a2 a3 a4 a5 = s5 := by subst e_s5; exact (Eq.trans (if_pos h1) (if_neg h6))
      exact wi_vret hC hr hk d_MO_put_18 rfl (congrArg (fun z => (σ, z, q)) hf).symm hQ
theorem k_MO_put {p : Program} {l : Launch} {e : Env} {R : Room} {s : State} {m : MethodId} {args : Array Value} {below : List Frame} {meth : Method} {c : Code} {Q : State → Prop} {E : Ev} {nL pc index : Nat} {lv : List (Nat × Value)} {rest : List Value} {cc : ByteArray} {own : String} {σ τ : St} {q : Int64} {a2 : Int64} {a4 : Int32} {a5 : Int32} (hC : Cx p s m args c cc nL own E) {x_a1 : Int32} (a1 : Bool) (hx_a1 : x_a1 = bI a1) {x_a3 : Int32} (a3 : Bool) (hx_a3 : x_a3 = bI a3)  (hl : Cond.methodLink own index y_MO_put ∈ WL) (hR : 1 + 1 ≤ R.frames ∧ 8 + (11 + 11) + 24 ≤ R.locals) (hs8 : (rest.map fun v => v.category).sum ≤ 8) (d : decode cc pc = .ok (.invokevirtual index, 3)) (k : WS p l e R s m args below meth c Q E nL (pc + 3) lv rest (σ, (f_MO_put τ a1 a2 a3 a4 a5), q)) : WS p l e R s m args below meth c Q E nL pc lv (.int a5 :: .int a4 :: .int x_a3 :: .long a2 :: .int x_a1 :: .ref 35 :: rest) (σ, τ, q) := by
  subst hx_a1
  subst hx_a3
  exact wi_callV hC (n := 5) (vs := [.int (bI a1), .long a2, .int (bI a3), .int a4, .int a5]) (rest := rest) 35 11 (by decide) rfl rfl rfl (c_MO_put l E σ τ q a1 a2 a3 a4 a5 ) (by decide +kernel) wd_758 wd_662 wd_759 wd_760 ⟨rfl, rfl⟩ rfl rfl hl hR hs8 d k
set_option maxRecDepth 100000 in
set_option maxHeartbeats 400000 in
theorem c_MO_make (l : Launch) (E : Ev) (σ τ : St) (q : Int64) (a1 : Bool)  : MF l y_MO_make prog_14_method_24_code 13 none { frames := 2, cells := 0, slots := 0, locals := 54 } E [.ref 35, .int (bI a1)] (σ, τ, q) none (σ, (f_MO_make τ a1), q) := by
  refine MF_intro (lv0 := [(0, .ref 35), (1, .int (bI a1))]) (by decide) wd_766 (Nat.le_of_ble_eq_true rfl) rfl ?_
  intro p e s m args below meth c Q hC hr hk hQ
  replace hC : Cx p s m args c prog_14_method_24_code 13 "PartnerStackModel$RealOperationsModel" E := hC
  refine wi_aload_n hC 0 d_MO_make_0 rfl rfl ?_
  refine k_MO_highest hC  wd_761 (by decide) (Nat.le_of_ble_eq_true rfl) d_MO_make_1 ?_
  refine wi_nmI (fun v1 e_v1 => ?_)
  refine wi_istore_n hC [(2, .int v1), (0, .ref 35), (1, .int (bI a1))] d_MO_make_4 rfl (by decide) rfl ?_
  refine wi_aload_n hC 1 d_MO_make_5 rfl rfl ?_
  refine wg_MO_unit hC wd_728 d_MO_make_6 ?_
  refine wi_iload_n hC 0 d_MO_make_9 rfl rfl ?_
  refine wi_iadd hC d_MO_make_10 ?_
  refine wi_nmI (fun v2 e_v2 => ?_)
  refine wi_istore_n hC [(3, .int v2), (2, .int v1), (0, .ref 35), (1, .int (bI a1))] d_MO_make_11 rfl (by decide) rfl ?_
  refine wi_aload_n hC 2 d_MO_make_12 rfl rfl ?_
  refine k_MO_digits hC  wd_762 (by decide) (Nat.le_of_ble_eq_true rfl) d_MO_make_13 ?_
  refine wi_nmI (fun v3 e_v3 => ?_)
  refine wi_istore hC [(4, .int v3), (3, .int v2), (2, .int v1), (0, .ref 35), (1, .int (bI a1))] d_MO_make_16 (by decide) rfl ?_
  refine wi_iload_n hC 1 d_MO_make_18 rfl rfl ?_
  refine wi_sipush hC (-16382) (by decide) d_MO_make_19 ?_
  obtain ⟨Tt1, eTt1⟩ : ∃ y : Bool, y = (
          if (-16382) ≤ v2 then
            false
          else
            true) := ⟨_, rfl⟩
  have Jt1 : ∀ (t1 : Bool), Tt1 = t1 → WS p l e { frames := 2, cells := 0, slots := 0, locals := 54 } s m args below meth c Q E 13 30 [(4, .int v3), (3, .int v2), (2, .int v1), (0, .ref 35), (1, .int (bI a1))] [.int (bI t1)] (σ, τ, q) := by
    intro t1  e_t1
    rw [eTt1] at e_t1
    refine wi_istore hC [(5, .int (bI t1)), (4, .int v3), (3, .int v2), (2, .int v1), (0, .ref 35), (1, .int (bI a1))] d_MO_make_30 (by decide) rfl ?_
    refine wi_iload hC 0 d_MO_make_32 rfl ?_
    have B1 : f_MO_make τ a1 = f_MO_make_b104 τ a1 v2 v3 t1 → WS p l e { frames := 2, cells := 0, slots := 0, locals := 54 } s m args below meth c Q E 13 104 [(5, .int (bI t1)), (4, .int v3), (3, .int v2), (2, .int v1), (0, .ref 35), (1, .int (bI a1))] [] (σ, τ, q) := by
      intro hB1
      refine wi_iload_n hC 2 d_MO_make_104 rfl rfl ?_
      refine wi_iconst hC 1 (by decide) d_MO_make_105 ?_
      refine wi_iadd hC d_MO_make_106 ?_
      refine wi_iload hC 1 d_MO_make_107 rfl ?_
      refine wi_isub hC d_MO_make_109 ?_
      refine wi_nmI (fun v4 e_v4 => ?_)
      refine wi_istore hC [(6, .int v4), (5, .int (bI t1)), (4, .int v3), (3, .int v2), (2, .int v1), (0, .ref 35), (1, .int (bI a1))] d_MO_make_110 (by decide) rfl ?_
      refine wi_aload_n hC 5 d_MO_make_112 rfl rfl ?_
      refine wi_iload hC 0 d_MO_make_113 rfl ?_
      refine wi_iload_n hC 6 d_MO_make_115 rfl rfl ?_
      refine k_MO_times hC a1 rfl wd_763 (by decide) (Nat.le_of_ble_eq_true rfl) d_MO_make_116 ?_
      obtain ⟨r2, e_r2⟩ : ∃ y : Int64 × St, f_MO_times τ v4 a1 = y := ⟨_, rfl⟩
      rw [e_r2]
      refine wi_lstore hC [(7, .long r2.1), (6, .int v4), (5, .int (bI t1)), (4, .int v3), (3, .int v2), (2, .int v1), (0, .ref 35), (1, .int (bI a1))] d_MO_make_119 (by decide) rfl ?_
      refine wi_iload hC 3 d_MO_make_121 rfl ?_
      refine wi_bipush hC 64 (by decide) d_MO_make_123 ?_
      obtain ⟨Tt3, eTt3⟩ : ∃ y : Bool, y = (
              if v3 = 64 then
                if r2.1 = 0 then
                  true
                else
                  false
              else
                false) := ⟨_, rfl⟩
      have Jt3 : ∀ (t3 : Bool), Tt3 = t3 → WS p l e { frames := 2, cells := 0, slots := 0, locals := 54 } s m args below meth c Q E 13 140 [(7, .long r2.1), (6, .int v4), (5, .int (bI t1)), (4, .int v3), (3, .int v2), (2, .int v1), (0, .ref 35), (1, .int (bI a1))] [.int (bI t3)] (σ, r2.2, q) := by
        intro t3  e_t3
        rw [eTt3] at e_t3
        refine wi_istore hC [(9, .int (bI t3)), (7, .long r2.1), (6, .int v4), (5, .int (bI t1)), (4, .int v3), (3, .int v2), (2, .int v1), (0, .ref 35), (1, .int (bI a1))] d_MO_make_140 (by decide) rfl ?_
        refine wi_iload hC 0 d_MO_make_142 rfl ?_
        obtain ⟨Tt4, eTt4⟩ : ∃ y : Bool, y = (
                if t3 = true then
                  true
                else
                  if 64 ≤ v3 then
                    false
                  else
                    if jlshr r2.1 v3 = 0 then
                      false
                    else
                      true) := ⟨_, rfl⟩
        have Jt4 : ∀ (t4 : Bool), Tt4 = t4 → WS p l e { frames := 2, cells := 0, slots := 0, locals := 54 } s m args below meth c Q E 13 169 [(9, .int (bI t3)), (7, .long r2.1), (6, .int v4), (5, .int (bI t1)), (4, .int v3), (3, .int v2), (2, .int v1), (0, .ref 35), (1, .int (bI a1))] [.int (bI t4)] (σ, r2.2, q) := by
          intro t4  e_t4
          rw [eTt4] at e_t4
          refine wi_istore hC [(10, .int (bI t4)), (9, .int (bI t3)), (7, .long r2.1), (6, .int v4), (5, .int (bI t1)), (4, .int v3), (3, .int v2), (2, .int v1), (0, .ref 35), (1, .int (bI a1))] d_MO_make_169 (by decide) rfl ?_
          refine wi_aload_n hC 8 d_MO_make_171 rfl rfl ?_
          refine wi_aload_n hC 8 d_MO_make_172 rfl rfl ?_
          refine wg_MO_lossy hC wd_752 d_MO_make_173 ?_
          obtain ⟨Tt5, eTt5⟩ : ∃ y : Int32, y = (
                  if gZ r2.2 25 35 = true then
                    (gI r2.2 21 35) + 32
                  else
                    gI r2.2 21 35) := ⟨_, rfl⟩
          have Jt5 : ∀ (t5 : Int32), Tt5 = t5 → WS p l e { frames := 2, cells := 0, slots := 0, locals := 54 } s m args below meth c Q E 13 193 [(10, .int (bI t4)), (9, .int (bI t3)), (7, .long r2.1), (6, .int v4), (5, .int (bI t1)), (4, .int v3), (3, .int v2), (2, .int v1), (0, .ref 35), (1, .int (bI a1))] [.int t5, .ref 35] (σ, r2.2, q) := by
            intro t5  e_t5
            rw [eTt5] at e_t5
            refine wp_MO_told hC wd_686 d_MO_make_193 ?_
            refine wi_nmM (fun s3 e_s3 => ?_)
            refine wi_iload hC 4 d_MO_make_196 rfl ?_
            obtain ⟨Tt6, eTt6⟩ : ∃ y : St, y = (
                    if t1 = true then
                      let s10 : St := sI s3 21 35 ((gI s3 21 35) + 16)
                      let s11 : St := f_MO_put s10 a1 r2.1 t3 v4 24576
                      s11
                    else
                      let t7 : Bool := 
                          if t4 = true then
                            true
                          else
                            false
                      if 16384 ≤ (v2 + (bI t7)) then
                        if (gI s3 16 35) &&& 8 = 0 then
                          let s7 : St := sI s3 21 35 ((gI s3 21 35) + 8)
                          let s8 : St := f_MO_put s7 a1 r2.1 t3 v4 (-24576)
                          s8
                        else
                          let t8 : Int32 := 
                              if gZ s3 25 35 = true then
                                0
                              else
                                32
                          let s4 : St := sI s3 21 35 (((gI s3 21 35) + 8) + t8)
                          let v5 : Int32 := jrem ((gI s4 16 35) / 1024) 4
                          let t9 : Bool := 
                              if v5 = 0 then
                                true
                              else
                                let t10 : Int32 := 
                                    if a1 = true then
                                      1
                                    else
                                      2
                                if v5 = t10 then
                                  true
                                else
                                  false
                          if t9 = true then
                            let s6 : St := f_MO_answer s4 a1 32767 (-9223372036854775808)
                            s6
                          else
                            let s5 : St := f_MO_answer s4 a1 32766 (jlshl (-1) (64 - v3))
                            s5
                      else
                        let s9 : St := f_MO_put s3 a1 r2.1 t3 v4 0
                        s9) := ⟨_, rfl⟩
            have Jt6 : ∀ (t6 : St), Tt6 = t6 → WS p l e { frames := 2, cells := 0, slots := 0, locals := 54 } s m args below meth c Q E 13 399 [(10, .int (bI t4)), (9, .int (bI t3)), (7, .long r2.1), (6, .int v4), (5, .int (bI t1)), (4, .int v3), (3, .int v2), (2, .int v1), (0, .ref 35), (1, .int (bI a1))] [] (σ, t6, q) := by
              intro t6  e_t6
              rw [eTt6] at e_t6
              have hf : f_MO_make τ a1 = t6 := by subst e_t6; subst e_s3; subst e_t5; subst e_t4; subst e_t3; subst e_r2; subst e_v4; exact hB1
              exact wi_vret hC hr hk d_MO_make_399 rfl (congrArg (fun z => (σ, z, q)) hf).symm hQ
            refine wi_z_eq (b := t1) hC 229 d_MO_make_198 (by decide) (fun h11 => ?_) (fun h11 => ?_)
            · skip
              refine wi_iload_n hC 6 d_MO_make_229 rfl rfl ?_
              refine wi_iload hC 0 d_MO_make_230 rfl ?_
              obtain ⟨Tt7, eTt7⟩ : ∃ y : Bool, y = (
                      if t4 = true then
                        true
                      else
                        false) := ⟨_, rfl⟩
              have Jt7 : ∀ (t7 : Bool), Tt7 = t7 → WS p l e { frames := 2, cells := 0, slots := 0, locals := 54 } s m args below meth c Q E 13 240 [(10, .int (bI t4)), (9, .int (bI t3)), (7, .long r2.1), (6, .int v4), (5, .int (bI t1)), (4, .int v3), (3, .int v2), (2, .int v1), (0, .ref 35), (1, .int (bI a1))] [.int (bI t7), .int v2] (σ, s3, q) := by
                intro t7  e_t7
                rw [eTt7] at e_t7
                refine wi_iadd hC d_MO_make_240 ?_
                refine wi_sipush hC 16384 (by decide) d_MO_make_241 ?_
                refine wi_icmp_ge hC 262 d_MO_make_244 (by decide) (fun h13 => ?_) (fun h13 => ?_)
                · skip
                  refine wi_aload_n hC 8 d_MO_make_262 rfl rfl ?_
                  refine wg_MO_word hC wd_660 d_MO_make_263 ?_
                  refine wi_bipush hC 8 (by decide) d_MO_make_266 ?_
                  refine wi_iand hC d_MO_make_268 ?_
                  refine wi_if_ne hC 300 d_MO_make_269 (by decide) (fun h14 => ?_) (fun h14 => ?_)
                  · skip
                    refine wi_aload_n hC 8 d_MO_make_300 rfl rfl ?_
                    refine wi_aload_n hC 8 d_MO_make_301 rfl rfl ?_
                    refine wg_MO_told hC wd_686 d_MO_make_302 ?_
                    refine wi_bipush hC 8 (by decide) d_MO_make_305 ?_
                    refine wi_iadd hC d_MO_make_307 ?_
                    refine wi_aload_n hC 8 d_MO_make_308 rfl rfl ?_
                    refine wg_MO_lossy hC wd_752 d_MO_make_309 ?_
                    obtain ⟨Tt8, eTt8⟩ : ∃ y : Int32, y = (
                            if gZ s3 25 35 = true then
                              0
                            else
                              32) := ⟨_, rfl⟩
                    have Jt8 : ∀ (t8 : Int32), Tt8 = t8 → WS p l e { frames := 2, cells := 0, slots := 0, locals := 54 } s m args below meth c Q E 13 321 [(10, .int (bI t4)), (9, .int (bI t3)), (7, .long r2.1), (6, .int v4), (5, .int (bI t1)), (4, .int v3), (3, .int v2), (2, .int v1), (0, .ref 35), (1, .int (bI a1))] [.int t8, .int ((gI s3 21 35) + 8), .ref 35] (σ, s3, q) := by
                      intro t8  e_t8
                      rw [eTt8] at e_t8
                      refine wi_iadd hC d_MO_make_321 ?_
                      refine wp_MO_told hC wd_686 d_MO_make_322 ?_
                      refine wi_nmM (fun s4 e_s4 => ?_)
                      refine wi_aload_n hC 8 d_MO_make_325 rfl rfl ?_
                      refine wg_MO_word hC wd_660 d_MO_make_326 ?_
                      refine wi_sipush hC 1024 (by decide) d_MO_make_329 ?_
                      refine wi_idiv hC (by decide) d_MO_make_332 ?_
                      refine wi_iconst hC 4 (by decide) d_MO_make_333 ?_
                      refine wi_irem hC (by decide) d_MO_make_334 ?_
                      refine wi_nmI (fun v5 e_v5 => ?_)
                      refine wi_istore hC [(11, .int v5), (10, .int (bI t4)), (9, .int (bI t3)), (7, .long r2.1), (6, .int v4), (5, .int (bI t1)), (4, .int v3), (3, .int v2), (2, .int v1), (0, .ref 35), (1, .int (bI a1))] d_MO_make_335 (by decide) rfl ?_
                      refine wi_iload hC 0 d_MO_make_337 rfl ?_
                      obtain ⟨Tt9, eTt9⟩ : ∃ y : Bool, y = (
                              if v5 = 0 then
                                true
                              else
                                let t10 : Int32 := 
                                    if a1 = true then
                                      1
                                    else
                                      2
                                if v5 = t10 then
                                  true
                                else
                                  false) := ⟨_, rfl⟩
                      have Jt9 : ∀ (t9 : Bool), Tt9 = t9 → WS p l e { frames := 2, cells := 0, slots := 0, locals := 54 } s m args below meth c Q E 13 361 [(11, .int v5), (10, .int (bI t4)), (9, .int (bI t3)), (7, .long r2.1), (6, .int v4), (5, .int (bI t1)), (4, .int v3), (3, .int v2), (2, .int v1), (0, .ref 35), (1, .int (bI a1))] [.int (bI t9)] (σ, s4, q) := by
                        intro t9  e_t9
                        rw [eTt9] at e_t9
                        refine wi_istore hC [(12, .int (bI t9)), (11, .int v5), (10, .int (bI t4)), (9, .int (bI t3)), (7, .long r2.1), (6, .int v4), (5, .int (bI t1)), (4, .int v3), (3, .int v2), (2, .int v1), (0, .ref 35), (1, .int (bI a1))] d_MO_make_361 (by decide) rfl ?_
                        refine wi_iload hC 0 d_MO_make_363 rfl ?_
                        refine wi_z_eq (b := t9) hC 382 d_MO_make_365 (by decide) (fun h19 => ?_) (fun h19 => ?_)
                        · skip
                          refine wi_aload_n hC 10 d_MO_make_382 rfl rfl ?_
                          refine wi_iload_n hC 11 d_MO_make_383 rfl rfl ?_
                          refine wi_sipush hC 32766 (by decide) d_MO_make_384 ?_
                          refine wi_ldc2 hC wd_765 d_MO_make_387 ?_
                          refine wi_bipush hC 64 (by decide) d_MO_make_390 ?_
                          refine wi_iload hC 7 d_MO_make_392 rfl ?_
                          refine wi_isub hC d_MO_make_394 ?_
                          refine wi_lshl hC d_MO_make_395 ?_
                          refine k_MO_answer hC a1 rfl wd_757 (by decide) (Nat.le_of_ble_eq_true rfl) d_MO_make_396 ?_
                          refine wi_nmM (fun s5 e_s5 => ?_)
                          refine wi_lv [2, 3, 4, 5, 6, 7, 8, 9, 10, 11] [(10, .int (bI t4)), (9, .int (bI t3)), (7, .long r2.1), (6, .int v4), (5, .int (bI t1)), (4, .int v3), (3, .int v2), (2, .int v1), (0, .ref 35), (1, .int (bI a1))] rfl ?_
                          exact Jt6 s5 (by subst e_s5; subst e_t9; subst e_v5; subst e_s4; subst e_t8; subst e_t7; exact (Eq.trans eTt6 (Eq.trans (if_neg h11) (Eq.trans (if_pos h13) (Eq.trans (if_neg h14) (if_neg h19))))))
                        · skip
                          refine wi_aload_n hC 10 d_MO_make_368 rfl rfl ?_
                          refine wi_iload_n hC 11 d_MO_make_369 rfl rfl ?_
                          refine wi_sipush hC 32767 (by decide) d_MO_make_370 ?_
                          refine wi_ldc2 hC wd_756 d_MO_make_373 ?_
                          refine k_MO_answer hC a1 rfl wd_757 (by decide) (Nat.le_of_ble_eq_true rfl) d_MO_make_376 ?_
                          refine wi_nmM (fun s6 e_s6 => ?_)
                          refine wi_goto hC 399 d_MO_make_379 (by decide) ?_
                          refine wi_lv [2, 3, 4, 5, 6, 7, 8, 9, 10, 11] [(10, .int (bI t4)), (9, .int (bI t3)), (7, .long r2.1), (6, .int v4), (5, .int (bI t1)), (4, .int v3), (3, .int v2), (2, .int v1), (0, .ref 35), (1, .int (bI a1))] rfl ?_
                          exact Jt6 s6 (by subst e_s6; subst e_t9; subst e_v5; subst e_s4; subst e_t8; subst e_t7; exact (Eq.trans eTt6 (Eq.trans (if_neg h11) (Eq.trans (if_pos h13) (Eq.trans (if_neg h14) (if_pos h19))))))
                      refine wi_if_eq hC 356 d_MO_make_339 (by decide) (fun h16 => ?_) (fun h16 => ?_)
                      · skip
                        refine wi_iconst hC 1 (by decide) d_MO_make_356 ?_
                        refine wi_goto hC 361 d_MO_make_357 (by decide) ?_
                        exact Jt9 true (by exact (Eq.trans eTt9 (if_pos h16)))
                      · skip
                        refine wi_iload hC 0 d_MO_make_342 rfl ?_
                        refine wi_iload_n hC 10 d_MO_make_344 rfl rfl ?_
                        obtain ⟨Tt10, eTt10⟩ : ∃ y : Int32, y = (
                                if a1 = true then
                                  1
                                else
                                  2) := ⟨_, rfl⟩
                        have Jt10 : ∀ (t10 : Int32), Tt10 = t10 → WS p l e { frames := 2, cells := 0, slots := 0, locals := 54 } s m args below meth c Q E 13 353 [(11, .int v5), (10, .int (bI t4)), (9, .int (bI t3)), (7, .long r2.1), (6, .int v4), (5, .int (bI t1)), (4, .int v3), (3, .int v2), (2, .int v1), (0, .ref 35), (1, .int (bI a1))] [.int t10, .int v5] (σ, s4, q) := by
                          intro t10  e_t10
                          rw [eTt10] at e_t10
                          refine wi_icmp_ne hC 360 d_MO_make_353 (by decide) (fun h18 => ?_) (fun h18 => ?_)
                          · skip
                            refine wi_iconst hC 0 (by decide) d_MO_make_360 ?_
                            exact Jt9 false (by subst e_t10; exact (Eq.trans eTt9 (Eq.trans (if_neg h16) (if_neg h18))))
                          · skip
                            refine wi_iconst hC 1 (by decide) d_MO_make_356 ?_
                            refine wi_goto hC 361 d_MO_make_357 (by decide) ?_
                            exact Jt9 true (by subst e_t10; exact (Eq.trans eTt9 (Eq.trans (if_neg h16) (if_pos h18))))
                        refine wi_z_eq (b := a1) hC 352 d_MO_make_345 (by decide) (fun h17 => ?_) (fun h17 => ?_)
                        · skip
                          refine wi_iconst hC 2 (by decide) d_MO_make_352 ?_
                          exact Jt10 2 (by exact (Eq.trans eTt10 (if_neg h17)))
                        · skip
                          refine wi_iconst hC 1 (by decide) d_MO_make_348 ?_
                          refine wi_goto hC 353 d_MO_make_349 (by decide) ?_
                          exact Jt10 1 (by exact (Eq.trans eTt10 (if_pos h17)))
                    refine wi_z_eq (b := (gZ s3 25 35)) hC 319 d_MO_make_312 (by decide) (fun h15 => ?_) (fun h15 => ?_)
                    · skip
                      refine wi_bipush hC 32 (by decide) d_MO_make_319 ?_
                      exact Jt8 32 (by exact (Eq.trans eTt8 (if_neg h15)))
                    · skip
                      refine wi_iconst hC 0 (by decide) d_MO_make_315 ?_
                      refine wi_goto hC 321 d_MO_make_316 (by decide) ?_
                      exact Jt8 0 (by exact (Eq.trans eTt8 (if_pos h15)))
                  · skip
                    refine wi_aload_n hC 8 d_MO_make_272 rfl rfl ?_
                    refine wi_aload_n hC 8 d_MO_make_273 rfl rfl ?_
                    refine wg_MO_told hC wd_686 d_MO_make_274 ?_
                    refine wi_bipush hC 8 (by decide) d_MO_make_277 ?_
                    refine wi_iadd hC d_MO_make_279 ?_
                    refine wp_MO_told hC wd_686 d_MO_make_280 ?_
                    refine wi_nmM (fun s7 e_s7 => ?_)
                    refine wi_aload_n hC 8 d_MO_make_283 rfl rfl ?_
                    refine wi_iload_n hC 9 d_MO_make_284 rfl rfl ?_
                    refine wi_lload hC 2 d_MO_make_285 rfl ?_
                    refine wi_iload hC 1 d_MO_make_287 rfl ?_
                    refine wi_iload hC 3 d_MO_make_289 rfl ?_
                    refine wi_sipush hC (-24576) (by decide) d_MO_make_291 ?_
                    refine k_MO_put hC a1 rfl t3 rfl wd_764 (by decide) (Nat.le_of_ble_eq_true rfl) d_MO_make_294 ?_
                    refine wi_nmM (fun s8 e_s8 => ?_)
                    refine wi_goto hC 399 d_MO_make_297 (by decide) ?_
                    exact Jt6 s8 (by subst e_s8; subst e_s7; subst e_t7; exact (Eq.trans eTt6 (Eq.trans (if_neg h11) (Eq.trans (if_pos h13) (if_pos h14)))))
                · skip
                  refine wi_aload_n hC 8 d_MO_make_247 rfl rfl ?_
                  refine wi_iload_n hC 9 d_MO_make_248 rfl rfl ?_
                  refine wi_lload hC 2 d_MO_make_249 rfl ?_
                  refine wi_iload hC 1 d_MO_make_251 rfl ?_
                  refine wi_iload hC 3 d_MO_make_253 rfl ?_
                  refine wi_iconst hC 0 (by decide) d_MO_make_255 ?_
                  refine k_MO_put hC a1 rfl t3 rfl wd_764 (by decide) (Nat.le_of_ble_eq_true rfl) d_MO_make_256 ?_
                  refine wi_nmM (fun s9 e_s9 => ?_)
                  refine wi_goto hC 399 d_MO_make_259 (by decide) ?_
                  exact Jt6 s9 (by subst e_s9; subst e_t7; exact (Eq.trans eTt6 (Eq.trans (if_neg h11) (if_neg h13))))
              refine wi_z_eq (b := t4) hC 239 d_MO_make_232 (by decide) (fun h12 => ?_) (fun h12 => ?_)
              · skip
                refine wi_iconst hC 0 (by decide) d_MO_make_239 ?_
                exact Jt7 false (by exact (Eq.trans eTt7 (if_neg h12)))
              · skip
                refine wi_iconst hC 1 (by decide) d_MO_make_235 ?_
                refine wi_goto hC 240 d_MO_make_236 (by decide) ?_
                exact Jt7 true (by exact (Eq.trans eTt7 (if_pos h12)))
            · skip
              refine wi_aload_n hC 8 d_MO_make_201 rfl rfl ?_
              refine wi_aload_n hC 8 d_MO_make_202 rfl rfl ?_
              refine wg_MO_told hC wd_686 d_MO_make_203 ?_
              refine wi_bipush hC 16 (by decide) d_MO_make_206 ?_
              refine wi_iadd hC d_MO_make_208 ?_
              refine wp_MO_told hC wd_686 d_MO_make_209 ?_
              refine wi_nmM (fun s10 e_s10 => ?_)
              refine wi_aload_n hC 8 d_MO_make_212 rfl rfl ?_
              refine wi_iload_n hC 9 d_MO_make_213 rfl rfl ?_
              refine wi_lload hC 2 d_MO_make_214 rfl ?_
              refine wi_iload hC 1 d_MO_make_216 rfl ?_
              refine wi_iload hC 3 d_MO_make_218 rfl ?_
              refine wi_sipush hC 24576 (by decide) d_MO_make_220 ?_
              refine k_MO_put hC a1 rfl t3 rfl wd_764 (by decide) (Nat.le_of_ble_eq_true rfl) d_MO_make_223 ?_
              refine wi_nmM (fun s11 e_s11 => ?_)
              refine wi_goto hC 399 d_MO_make_226 (by decide) ?_
              exact Jt6 s11 (by subst e_s11; subst e_s10; exact (Eq.trans eTt6 (if_pos h11)))
          refine wi_z_eq (b := (gZ r2.2 25 35)) hC 189 d_MO_make_176 (by decide) (fun h10 => ?_) (fun h10 => ?_)
          · skip
            refine wi_aload_n hC 8 d_MO_make_189 rfl rfl ?_
            refine wg_MO_told hC wd_686 d_MO_make_190 ?_
            exact Jt5 (gI r2.2 21 35) (by exact (Eq.trans eTt5 (if_neg h10)))
          · skip
            refine wi_aload_n hC 8 d_MO_make_179 rfl rfl ?_
            refine wg_MO_told hC wd_686 d_MO_make_180 ?_
            refine wi_bipush hC 32 (by decide) d_MO_make_183 ?_
            refine wi_iadd hC d_MO_make_185 ?_
            refine wi_goto hC 193 d_MO_make_186 (by decide) ?_
            exact Jt5 ((gI r2.2 21 35) + 32) (by exact (Eq.trans eTt5 (if_pos h10)))
        refine wi_z_ne (b := t3) hC 164 d_MO_make_144 (by decide) (fun h7 => ?_) (fun h7 => ?_)
        · skip
          refine wi_iconst hC 1 (by decide) d_MO_make_164 ?_
          refine wi_goto hC 169 d_MO_make_165 (by decide) ?_
          exact Jt4 true (by exact (Eq.trans eTt4 (if_pos h7)))
        · skip
          refine wi_iload hC 4 d_MO_make_147 rfl ?_
          refine wi_bipush hC 64 (by decide) d_MO_make_149 ?_
          refine wi_icmp_ge hC 168 d_MO_make_151 (by decide) (fun h8 => ?_) (fun h8 => ?_)
          · skip
            refine wi_iconst hC 0 (by decide) d_MO_make_168 ?_
            exact Jt4 false (by exact (Eq.trans eTt4 (Eq.trans (if_neg h7) (if_pos h8))))
          · skip
            refine wi_lload hC 1 d_MO_make_154 rfl ?_
            refine wi_iload hC 4 d_MO_make_156 rfl ?_
            refine wi_lshr hC d_MO_make_158 ?_
            refine wi_lconst hC 0 (by decide) d_MO_make_159 ?_
            refine wi_lcmp_eq hC 168 d_MO_make_160 d_MO_make_161 (by decide) (fun h9 => ?_) (fun h9 => ?_)
            · skip
              refine wi_iconst hC 0 (by decide) d_MO_make_168 ?_
              exact Jt4 false (by exact (Eq.trans eTt4 (Eq.trans (if_neg h7) (Eq.trans (if_neg h8) (if_pos h9)))))
            · skip
              refine wi_iconst hC 1 (by decide) d_MO_make_164 ?_
              refine wi_goto hC 169 d_MO_make_165 (by decide) ?_
              exact Jt4 true (by exact (Eq.trans eTt4 (Eq.trans (if_neg h7) (Eq.trans (if_neg h8) (if_neg h9)))))
      refine wi_icmp_ne hC 139 d_MO_make_125 (by decide) (fun h5 => ?_) (fun h5 => ?_)
      · skip
        refine wi_iconst hC 0 (by decide) d_MO_make_139 ?_
        exact Jt3 false (by exact (Eq.trans eTt3 (if_neg h5)))
      · skip
        refine wi_lload hC 0 d_MO_make_128 rfl ?_
        refine wi_lconst hC 0 (by decide) d_MO_make_130 ?_
        refine wi_lcmp_ne hC 139 d_MO_make_131 d_MO_make_132 (by decide) (fun h6 => ?_) (fun h6 => ?_)
        · skip
          refine wi_iconst hC 0 (by decide) d_MO_make_139 ?_
          exact Jt3 false (by exact (Eq.trans eTt3 (Eq.trans (if_pos h5) (if_neg h6))))
        · skip
          refine wi_iconst hC 1 (by decide) d_MO_make_135 ?_
          refine wi_goto hC 140 d_MO_make_136 (by decide) ?_
          exact Jt3 true (by exact (Eq.trans eTt3 (Eq.trans (if_pos h5) (if_pos h6))))
    refine wi_z_eq (b := t1) hC 104 d_MO_make_34 (by decide) (fun h2 => ?_) (fun h2 => ?_)
    · skip
      exact B1   (by subst e_t1; subst e_v3; subst e_v2; subst e_v1; exact (if_neg h2))
    · skip
      refine wi_aload_n hC 4 d_MO_make_37 rfl rfl ?_
      refine wg_MO_word hC wd_660 d_MO_make_38 ?_
      refine wi_bipush hC 16 (by decide) d_MO_make_41 ?_
      refine wi_iand hC d_MO_make_43 ?_
      refine wi_if_eq hC 104 d_MO_make_44 (by decide) (fun h3 => ?_) (fun h3 => ?_)
      · skip
        exact B1   (by subst e_t1; subst e_v3; subst e_v2; subst e_v1; exact (Eq.trans (if_pos h2) (if_pos h3)))
      · skip
        refine wi_aload_n hC 4 d_MO_make_47 rfl rfl ?_
        refine wi_sipush hC (-16381) (by decide) d_MO_make_48 ?_
        refine wi_iload hC 1 d_MO_make_51 rfl ?_
        refine wi_isub hC d_MO_make_53 ?_
        refine wi_iload_n hC 5 d_MO_make_54 rfl rfl ?_
        refine k_MO_times hC a1 rfl wd_763 (by decide) (Nat.le_of_ble_eq_true rfl) d_MO_make_55 ?_
        obtain ⟨r1, e_r1⟩ : ∃ y : Int64 × St, f_MO_times τ ((-16381) - v3) a1 = y := ⟨_, rfl⟩
        rw [e_r1]
        refine wi_lstore hC [(6, .long r1.1), (5, .int (bI t1)), (4, .int v3), (3, .int v2), (2, .int v1), (0, .ref 35), (1, .int (bI a1))] d_MO_make_58 (by decide) rfl ?_
        refine wi_aload_n hC 5 d_MO_make_60 rfl rfl ?_
        refine wi_aload_n hC 5 d_MO_make_61 rfl rfl ?_
        refine wg_MO_lossy hC wd_752 d_MO_make_62 ?_
        obtain ⟨Tt2, eTt2⟩ : ∃ y : Int32, y = (
                if gZ r1.2 25 35 = true then
                  ((gI r1.2 21 35) + 16) + 32
                else
                  gI r1.2 21 35) := ⟨_, rfl⟩
        have Jt2 : ∀ (t2 : Int32), Tt2 = t2 → WS p l e { frames := 2, cells := 0, slots := 0, locals := 54 } s m args below meth c Q E 13 85 [(6, .long r1.1), (5, .int (bI t1)), (4, .int v3), (3, .int v2), (2, .int v1), (0, .ref 35), (1, .int (bI a1))] [.int t2, .ref 35] (σ, r1.2, q) := by
          intro t2  e_t2
          rw [eTt2] at e_t2
          refine wp_MO_told hC wd_686 d_MO_make_85 ?_
          refine wi_nmM (fun s1 e_s1 => ?_)
          refine wi_aload_n hC 5 d_MO_make_88 rfl rfl ?_
          refine wi_iload_n hC 6 d_MO_make_89 rfl rfl ?_
          refine wi_lload hC 0 d_MO_make_90 rfl ?_
          refine wi_iconst hC 0 (by decide) d_MO_make_92 ?_
          refine wi_sipush hC (-16381) (by decide) d_MO_make_93 ?_
          refine wi_iload hC 2 d_MO_make_96 rfl ?_
          refine wi_isub hC d_MO_make_98 ?_
          refine wi_iconst hC 0 (by decide) d_MO_make_99 ?_
          refine k_MO_put hC a1 rfl false rfl wd_764 (by decide) (Nat.le_of_ble_eq_true rfl) d_MO_make_100 ?_
          refine wi_nmM (fun s2 e_s2 => ?_)
          have hf : f_MO_make τ a1 = s2 := by subst e_s2; subst e_s1; subst e_t2; subst e_r1; subst e_t1; subst e_v3; subst e_v2; subst e_v1; exact (Eq.trans (if_pos h2) (if_neg h3))
          exact wi_vret hC hr hk d_MO_make_103 rfl (congrArg (fun z => (σ, z, q)) hf).symm hQ
        refine wi_z_eq (b := (gZ r1.2 25 35)) hC 81 d_MO_make_65 (by decide) (fun h4 => ?_) (fun h4 => ?_)
        · skip
          refine wi_aload_n hC 5 d_MO_make_81 rfl rfl ?_
          refine wg_MO_told hC wd_686 d_MO_make_82 ?_
          exact Jt2 (gI r1.2 21 35) (by exact (Eq.trans eTt2 (if_neg h4)))
        · skip
          refine wi_aload_n hC 5 d_MO_make_68 rfl rfl ?_
          refine wg_MO_told hC wd_686 d_MO_make_69 ?_
          refine wi_bipush hC 16 (by decide) d_MO_make_72 ?_
          refine wi_iadd hC d_MO_make_74 ?_
          refine wi_bipush hC 32 (by decide) d_MO_make_75 ?_
          refine wi_iadd hC d_MO_make_77 ?_
          refine wi_goto hC 85 d_MO_make_78 (by decide) ?_
          exact Jt2 (((gI r1.2 21 35) + 16) + 32) (by exact (Eq.trans eTt2 (if_pos h4)))
  refine wi_icmp_ge hC 29 d_MO_make_22 (by decide) (fun h1 => ?_) (fun h1 => ?_)
  · skip
    refine wi_iconst hC 0 (by decide) d_MO_make_29 ?_
    exact Jt1 false (by exact (Eq.trans eTt1 (if_pos h1)))
  · skip
    refine wi_iconst hC 1 (by decide) d_MO_make_25 ?_
    refine wi_goto hC 30 d_MO_make_26 (by decide) ?_
    exact Jt1 true (by exact (Eq.trans eTt1 (if_neg h1)))
theorem k_MO_make {p : Program} {l : Launch} {e : Env} {R : Room} {s : State} {m : MethodId} {args : Array Value} {below : List Frame} {meth : Method} {c : Code} {Q : State → Prop} {E : Ev} {nL pc index : Nat} {lv : List (Nat × Value)} {rest : List Value} {cc : ByteArray} {own : String} {σ τ : St} {q : Int64}  (hC : Cx p s m args c cc nL own E) {x_a1 : Int32} (a1 : Bool) (hx_a1 : x_a1 = bI a1)  (hl : Cond.methodLink own index y_MO_make ∈ WL) (hR : 2 + 1 ≤ R.frames ∧ 8 + (13 + 11) + 54 ≤ R.locals) (hs8 : (rest.map fun v => v.category).sum ≤ 8) (d : decode cc pc = .ok (.invokevirtual index, 3)) (k : WS p l e R s m args below meth c Q E nL (pc + 3) lv rest (σ, (f_MO_make τ a1), q)) : WS p l e R s m args below meth c Q E nL pc lv (.int x_a1 :: .ref 35 :: rest) (σ, τ, q) := by
  subst hx_a1
  exact wi_callV hC (n := 1) (vs := [.int (bI a1)]) (rest := rest) 35 11 (by decide) rfl rfl rfl (c_MO_make l E σ τ q a1 ) (by decide +kernel) wd_766 wd_662 wd_767 wd_768 ⟨rfl, rfl⟩ rfl rfl hl hR hs8 d k
set_option maxRecDepth 100000 in
set_option maxHeartbeats 400000 in
theorem c_MO_sum (l : Launch) (E : Ev) (σ τ : St) (q : Int64)   : MF l y_MO_sum prog_14_method_28_code 6 none { frames := 3, cells := 0, slots := 0, locals := 86 } E [.ref 35] (σ, τ, q) none (σ, (f_MO_sum τ), q) := by
  refine MF_intro (lv0 := [(0, .ref 35)]) (by decide) wd_773 (Nat.le_of_ble_eq_true rfl) rfl ?_
  intro p e s m args below meth c Q hC hr hk hQ
  replace hC : Cx p s m args c prog_14_method_28_code 6 "PartnerStackModel$RealOperationsModel" E := hC
  refine wi_aload_n hC 0 d_MO_sum_0 rfl rfl ?_
  refine wi_iconst hC 0 (by decide) d_MO_sum_1 ?_
  refine k_MO_unitOf hC (by unfold vp_in; decide) wd_723 (by decide) (Nat.le_of_ble_eq_true rfl) d_MO_sum_2 ?_
  refine wi_aload_n hC 0 d_MO_sum_5 rfl rfl ?_
  refine wi_iconst hC 1 (by decide) d_MO_sum_6 ?_
  refine k_MO_unitOf hC (by unfold vp_in; decide) wd_723 (by decide) (Nat.le_of_ble_eq_true rfl) d_MO_sum_7 ?_
  obtain ⟨Tt1, eTt1⟩ : ∃ y : Int32, y = (
          if (f_MO_unitOf τ 1) ≤ (f_MO_unitOf τ 0) then
            f_MO_unitOf τ 1
          else
            f_MO_unitOf τ 0) := ⟨_, rfl⟩
  have Jt1 : ∀ (t1 : Int32), Tt1 = t1 → WS p l e { frames := 3, cells := 0, slots := 0, locals := 86 } s m args below meth c Q E 6 26 [(0, .ref 35)] [.int t1] (σ, τ, q) := by
    intro t1  e_t1
    rw [eTt1] at e_t1
    refine wi_istore_n hC [(1, .int t1), (0, .ref 35)] d_MO_sum_26 rfl (by decide) rfl ?_
    refine wi_aload_n hC 1 d_MO_sum_27 rfl rfl ?_
    refine wi_iconst hC 0 (by decide) d_MO_sum_28 ?_
    refine k_MO_unitOf hC (by unfold vp_in; decide) wd_723 (by decide) (Nat.le_of_ble_eq_true rfl) d_MO_sum_29 ?_
    refine wi_aload_n hC 1 d_MO_sum_32 rfl rfl ?_
    refine wi_iconst hC 1 (by decide) d_MO_sum_33 ?_
    refine k_MO_unitOf hC (by unfold vp_in; decide) wd_723 (by decide) (Nat.le_of_ble_eq_true rfl) d_MO_sum_34 ?_
    refine wi_iadd hC d_MO_sum_37 ?_
    refine wi_iconst hC 2 (by decide) d_MO_sum_38 ?_
    refine wi_iload_n hC 0 d_MO_sum_39 rfl rfl ?_
    refine wi_imul hC d_MO_sum_40 ?_
    refine wi_isub hC d_MO_sum_41 ?_
    refine wi_nmI (fun v1 e_v1 => ?_)
    refine wi_istore_n hC [(2, .int v1), (1, .int t1), (0, .ref 35)] d_MO_sum_42 rfl (by decide) rfl ?_
    refine wi_aload_n hC 2 d_MO_sum_43 rfl rfl ?_
    refine wg_MO_minus hC wd_674 d_MO_sum_44 ?_
    refine wi_iconst hC 0 (by decide) d_MO_sum_47 ?_
    refine wa_ld38 hC (by unfold vp_in; decide) d_MO_sum_48 ?_
    refine wi_aload_n hC 2 d_MO_sum_49 rfl rfl ?_
    refine wg_MO_minus hC wd_674 d_MO_sum_50 ?_
    refine wi_iconst hC 1 (by decide) d_MO_sum_53 ?_
    refine wa_ld38 hC (by unfold vp_in; decide) d_MO_sum_54 ?_
    obtain ⟨Tt2, eTt2⟩ : ∃ y : Bool, y = (
            if gZ τ 106 (jat 0) = gZ τ 106 (jat 1) then
              false
            else
              true) := ⟨_, rfl⟩
    have Jt2 : ∀ (t2 : Bool), Tt2 = t2 → WS p l e { frames := 3, cells := 0, slots := 0, locals := 86 } s m args below meth c Q E 6 63 [(2, .int v1), (1, .int t1), (0, .ref 35)] [.int (bI t2)] (σ, τ, q) := by
      intro t2  e_t2
      rw [eTt2] at e_t2
      refine wi_istore_n hC [(3, .int (bI t2)), (2, .int v1), (1, .int t1), (0, .ref 35)] d_MO_sum_63 rfl (by decide) rfl ?_
      refine wi_iload_n hC 0 d_MO_sum_64 rfl rfl ?_
      obtain ⟨Tt3, eTt3⟩ : ∃ y : Bool, y = (
              if t2 = true then
                if f_MO_isLess τ = true then
                  true
                else
                  false
              else
                false) := ⟨_, rfl⟩
      have Jt3 : ∀ (t3 : Bool), Tt3 = t3 → WS p l e { frames := 3, cells := 0, slots := 0, locals := 86 } s m args below meth c Q E 6 80 [(3, .int (bI t2)), (2, .int v1), (1, .int t1), (0, .ref 35)] [.int (bI t3)] (σ, τ, q) := by
        intro t3  e_t3
        rw [eTt3] at e_t3
        refine wi_istore hC [(4, .int (bI t3)), (3, .int (bI t2)), (2, .int v1), (1, .int t1), (0, .ref 35)] d_MO_sum_80 (by decide) rfl ?_
        refine wi_aload_n hC 4 d_MO_sum_82 rfl rfl ?_
        refine wi_iload_n hC 2 d_MO_sum_83 rfl rfl ?_
        refine wi_bipush hC 66 (by decide) d_MO_sum_84 ?_
        refine wi_iadd hC d_MO_sum_86 ?_
        refine wi_iload_n hC 3 d_MO_sum_87 rfl rfl ?_
        refine wi_inv (fun hv1 => ?_)
        refine k_MO_empty hC (sum_sz hv1.2.2.2.2.2.2.2 e_t1 e_v1) wd_770 (by decide) (Nat.le_of_ble_eq_true rfl) d_MO_sum_88 ?_
        refine wi_nmM (fun s1 e_s1 => ?_)
        refine wi_aload_n hC 4 d_MO_sum_91 rfl rfl ?_
        refine wi_aload_n hC 4 d_MO_sum_92 rfl rfl ?_
        refine wg_MO_part hC wd_677 d_MO_sum_93 ?_
        refine wi_iload hC 0 d_MO_sum_96 rfl ?_
        refine wa_ld40 hC (b2 _) d_MO_sum_98 ?_
        refine wi_aload_n hC 4 d_MO_sum_99 rfl rfl ?_
        refine wi_iload hC 0 d_MO_sum_100 rfl ?_
        refine k_MO_unitOf hC (b2 _) wd_723 (by decide) (Nat.le_of_ble_eq_true rfl) d_MO_sum_102 ?_
        refine wi_iload_n hC 3 d_MO_sum_105 rfl rfl ?_
        refine wi_isub hC d_MO_sum_106 ?_
        refine wi_iconst hC 0 (by decide) d_MO_sum_107 ?_
        refine wi_inv (fun hv2 => ?_)
        refine k_MO_join hC false rfl (sum_pl hv2.2.2.2.2.2.2.2 e_t1 (b2 _) (fun j => by rw [← e_s1]; exact empty_107 _ _ _ _)) wd_771 (by decide) (Nat.le_of_ble_eq_true rfl) d_MO_sum_108 ?_
        refine wi_nmM (fun s2 e_s2 => ?_)
        refine wi_aload_n hC 4 d_MO_sum_111 rfl rfl ?_
        refine wi_aload_n hC 4 d_MO_sum_112 rfl rfl ?_
        refine wg_MO_part hC wd_677 d_MO_sum_113 ?_
        refine wi_iconst hC 1 (by decide) d_MO_sum_116 ?_
        refine wi_iload hC 0 d_MO_sum_117 rfl ?_
        refine wi_isub hC d_MO_sum_119 ?_
        refine wa_ld40 hC (b2s _) d_MO_sum_120 ?_
        refine wi_aload_n hC 4 d_MO_sum_121 rfl rfl ?_
        refine wi_iconst hC 1 (by decide) d_MO_sum_122 ?_
        refine wi_iload hC 0 d_MO_sum_123 rfl ?_
        refine wi_isub hC d_MO_sum_125 ?_
        refine k_MO_unitOf hC (b2s _) wd_723 (by decide) (Nat.le_of_ble_eq_true rfl) d_MO_sum_126 ?_
        refine wi_iload_n hC 3 d_MO_sum_129 rfl rfl ?_
        refine wi_isub hC d_MO_sum_130 ?_
        refine wi_iload_n hC 1 d_MO_sum_131 rfl rfl ?_
        refine wi_inv (fun hv3 => ?_)
        refine k_MO_join hC t2 rfl (sum_pl hv3.2.2.2.2.2.2.2 e_t1 (b2s _) (fun j => by rw [← e_s2, join_107, ← e_s1]; exact empty_107 _ _ _ _)) wd_771 (by decide) (Nat.le_of_ble_eq_true rfl) d_MO_sum_132 ?_
        refine wi_nmM (fun s3 e_s3 => ?_)
        refine wi_aload_n hC 4 d_MO_sum_135 rfl rfl ?_
        refine wg_MO_word hC wd_660 d_MO_sum_136 ?_
        refine wi_sipush hC 1024 (by decide) d_MO_sum_139 ?_
        refine wi_idiv hC (by decide) d_MO_sum_142 ?_
        refine wi_iconst hC 4 (by decide) d_MO_sum_143 ?_
        refine wi_irem hC (by decide) d_MO_sum_144 ?_
        refine wi_iconst hC 1 (by decide) d_MO_sum_145 ?_
        obtain ⟨Tt4, eTt4⟩ : ∃ y : Bool, y = (
                if jrem ((gI s3 16 35) / 1024) 4 = 1 then
                  true
                else
                  false) := ⟨_, rfl⟩
        have Jt4 : ∀ (t4 : Bool), Tt4 = t4 → WS p l e { frames := 3, cells := 0, slots := 0, locals := 86 } s m args below meth c Q E 6 154 [(4, .int (bI t3)), (3, .int (bI t2)), (2, .int v1), (1, .int t1), (0, .ref 35)] [.int (bI t4)] (σ, s3, q) := by
          intro t4  e_t4
          rw [eTt4] at e_t4
          refine wi_istore hC [(5, .int (bI t4)), (4, .int (bI t3)), (3, .int (bI t2)), (2, .int v1), (1, .int t1), (0, .ref 35)] d_MO_sum_154 (by decide) rfl ?_
          refine wi_aload_n hC 5 d_MO_sum_156 rfl rfl ?_
          refine k_MO_highest hC  wd_761 (by decide) (Nat.le_of_ble_eq_true rfl) d_MO_sum_157 ?_
          obtain ⟨Tt5, eTt5⟩ : ∃ y : St, y = (
                  if (f_MO_highest s3) < 0 then
                    let t6 : Bool := 
                        if f_MO_isNothing s3 0 = true then
                          if f_MO_isNothing s3 1 = true then
                            if t2 = true then
                              t4
                            else
                              gZ s3 106 (jat 0)
                          else
                            t4
                        else
                          t4
                    let s4 : St := f_MO_answer s3 t6 0 0
                    s4
                  else
                    let s5 : St := f_MO_make s3 (gZ s3 106 (jat (bI t3)))
                    s5) := ⟨_, rfl⟩
          have Jt5 : ∀ (t5 : St), Tt5 = t5 → WS p l e { frames := 3, cells := 0, slots := 0, locals := 86 } s m args below meth c Q E 6 214 [(5, .int (bI t4)), (4, .int (bI t3)), (3, .int (bI t2)), (2, .int v1), (1, .int t1), (0, .ref 35)] [] (σ, t5, q) := by
            intro t5  e_t5
            rw [eTt5] at e_t5
            have hf : f_MO_sum τ = t5 := by subst e_t5; subst e_t4; subst e_s3; subst e_s2; subst e_s1; subst e_t3; subst e_t2; subst e_v1; subst e_t1; exact rfl
            exact wi_vret hC hr hk d_MO_sum_214 rfl (congrArg (fun z => (σ, z, q)) hf).symm hQ
          refine wi_if_lt hC 177 d_MO_sum_160 (by decide) (fun h6 => ?_) (fun h6 => ?_)
          · skip
            refine wi_aload_n hC 5 d_MO_sum_177 rfl rfl ?_
            refine wi_aload_n hC 5 d_MO_sum_178 rfl rfl ?_
            refine wi_iconst hC 0 (by decide) d_MO_sum_179 ?_
            refine k_MO_isNothing hC (by unfold vp_in; decide) wd_709 (by decide) (Nat.le_of_ble_eq_true rfl) d_MO_sum_180 ?_
            obtain ⟨Tt6, eTt6⟩ : ∃ y : Bool, y = (
                    if f_MO_isNothing s3 0 = true then
                      if f_MO_isNothing s3 1 = true then
                        if t2 = true then
                          t4
                        else
                          gZ s3 106 (jat 0)
                      else
                        t4
                    else
                      t4) := ⟨_, rfl⟩
            have Jt6 : ∀ (t6 : Bool), Tt6 = t6 → WS p l e { frames := 3, cells := 0, slots := 0, locals := 86 } s m args below meth c Q E 6 209 [(5, .int (bI t4)), (4, .int (bI t3)), (3, .int (bI t2)), (2, .int v1), (1, .int t1), (0, .ref 35)] [.int (bI t6), .ref 35] (σ, s3, q) := by
              intro t6  e_t6
              rw [eTt6] at e_t6
              refine wi_iconst hC 0 (by decide) d_MO_sum_209 ?_
              refine wi_lconst hC 0 (by decide) d_MO_sum_210 ?_
              refine k_MO_answer hC t6 rfl wd_757 (by decide) (Nat.le_of_ble_eq_true rfl) d_MO_sum_211 ?_
              refine wi_nmM (fun s4 e_s4 => ?_)
              exact Jt5 s4 (by subst e_s4; subst e_t6; exact (Eq.trans eTt5 (if_pos h6)))
            refine wi_z_eq (b := (f_MO_isNothing s3 0)) hC 207 d_MO_sum_183 (by decide) (fun h7 => ?_) (fun h7 => ?_)
            · skip
              refine wi_iload hC 0 d_MO_sum_207 rfl ?_
              exact Jt6 t4 (by exact (Eq.trans eTt6 (if_neg h7)))
            · skip
              refine wi_aload_n hC 5 d_MO_sum_186 rfl rfl ?_
              refine wi_iconst hC 1 (by decide) d_MO_sum_187 ?_
              refine k_MO_isNothing hC (by unfold vp_in; decide) wd_709 (by decide) (Nat.le_of_ble_eq_true rfl) d_MO_sum_188 ?_
              refine wi_z_eq (b := (f_MO_isNothing s3 1)) hC 207 d_MO_sum_191 (by decide) (fun h8 => ?_) (fun h8 => ?_)
              · skip
                refine wi_iload hC 0 d_MO_sum_207 rfl ?_
                exact Jt6 t4 (by exact (Eq.trans eTt6 (Eq.trans (if_pos h7) (if_neg h8))))
              · skip
                refine wi_iload_n hC 2 d_MO_sum_194 rfl rfl ?_
                refine wi_z_ne (b := t2) hC 207 d_MO_sum_195 (by decide) (fun h9 => ?_) (fun h9 => ?_)
                · skip
                  refine wi_iload hC 0 d_MO_sum_207 rfl ?_
                  exact Jt6 t4 (by exact (Eq.trans eTt6 (Eq.trans (if_pos h7) (Eq.trans (if_pos h8) (if_pos h9)))))
                · skip
                  refine wi_aload_n hC 5 d_MO_sum_198 rfl rfl ?_
                  refine wg_MO_minus hC wd_674 d_MO_sum_199 ?_
                  refine wi_iconst hC 0 (by decide) d_MO_sum_202 ?_
                  refine wa_ld38 hC (by unfold vp_in; decide) d_MO_sum_203 ?_
                  refine wi_goto hC 209 d_MO_sum_204 (by decide) ?_
                  exact Jt6 (gZ s3 106 (jat 0)) (by exact (Eq.trans eTt6 (Eq.trans (if_pos h7) (Eq.trans (if_pos h8) (if_neg h9)))))
          · skip
            refine wi_aload_n hC 5 d_MO_sum_163 rfl rfl ?_
            refine wi_aload_n hC 5 d_MO_sum_164 rfl rfl ?_
            refine wg_MO_minus hC wd_674 d_MO_sum_165 ?_
            refine wi_iload hC 1 d_MO_sum_168 rfl ?_
            refine wa_ld38 hC (b2 _) d_MO_sum_170 ?_
            refine k_MO_make hC (gZ s3 106 (jat (bI t3))) rfl wd_772 (by decide) (Nat.le_of_ble_eq_true rfl) d_MO_sum_171 ?_
            refine wi_nmM (fun s5 e_s5 => ?_)
            refine wi_goto hC 214 d_MO_sum_174 (by decide) ?_
            exact Jt5 s5 (by subst e_s5; exact (Eq.trans eTt5 (if_neg h6)))
        refine wi_icmp_ne hC 153 d_MO_sum_146 (by decide) (fun h5 => ?_) (fun h5 => ?_)
        · skip
          refine wi_iconst hC 0 (by decide) d_MO_sum_153 ?_
          exact Jt4 false (by exact (Eq.trans eTt4 (if_neg h5)))
        · skip
          refine wi_iconst hC 1 (by decide) d_MO_sum_149 ?_
          refine wi_goto hC 154 d_MO_sum_150 (by decide) ?_
          exact Jt4 true (by exact (Eq.trans eTt4 (if_pos h5)))
      refine wi_z_eq (b := t2) hC 79 d_MO_sum_65 (by decide) (fun h3 => ?_) (fun h3 => ?_)
      · skip
        refine wi_iconst hC 0 (by decide) d_MO_sum_79 ?_
        exact Jt3 false (by exact (Eq.trans eTt3 (if_neg h3)))
      · skip
        refine wi_aload_n hC 3 d_MO_sum_68 rfl rfl ?_
        refine k_MO_isLess hC  wd_769 (by decide) (Nat.le_of_ble_eq_true rfl) d_MO_sum_69 ?_
        refine wi_z_eq (b := (f_MO_isLess τ)) hC 79 d_MO_sum_72 (by decide) (fun h4 => ?_) (fun h4 => ?_)
        · skip
          refine wi_iconst hC 0 (by decide) d_MO_sum_79 ?_
          exact Jt3 false (by exact (Eq.trans eTt3 (Eq.trans (if_pos h3) (if_neg h4))))
        · skip
          refine wi_iconst hC 1 (by decide) d_MO_sum_75 ?_
          refine wi_goto hC 80 d_MO_sum_76 (by decide) ?_
          exact Jt3 true (by exact (Eq.trans eTt3 (Eq.trans (if_pos h3) (if_pos h4))))
    refine wi_zc_eq (a := (gZ τ 106 (jat 0))) (b := (gZ τ 106 (jat 1))) hC 62 d_MO_sum_55 (by decide) (fun h2 => ?_) (fun h2 => ?_)
    · skip
      refine wi_iconst hC 0 (by decide) d_MO_sum_62 ?_
      exact Jt2 false (by exact (Eq.trans eTt2 (if_pos h2)))
    · skip
      refine wi_iconst hC 1 (by decide) d_MO_sum_58 ?_
      refine wi_goto hC 63 d_MO_sum_59 (by decide) ?_
      exact Jt2 true (by exact (Eq.trans eTt2 (if_neg h2)))
  refine wi_icmp_ge hC 21 d_MO_sum_10 (by decide) (fun h1 => ?_) (fun h1 => ?_)
  · skip
    refine wi_aload_n hC 0 d_MO_sum_21 rfl rfl ?_
    refine wi_iconst hC 1 (by decide) d_MO_sum_22 ?_
    refine k_MO_unitOf hC (by unfold vp_in; decide) wd_723 (by decide) (Nat.le_of_ble_eq_true rfl) d_MO_sum_23 ?_
    exact Jt1 (f_MO_unitOf τ 1) (by exact (Eq.trans eTt1 (if_pos h1)))
  · skip
    refine wi_aload_n hC 0 d_MO_sum_13 rfl rfl ?_
    refine wi_iconst hC 0 (by decide) d_MO_sum_14 ?_
    refine k_MO_unitOf hC (by unfold vp_in; decide) wd_723 (by decide) (Nat.le_of_ble_eq_true rfl) d_MO_sum_15 ?_
    refine wi_goto hC 26 d_MO_sum_18 (by decide) ?_
    exact Jt1 (f_MO_unitOf τ 0) (by exact (Eq.trans eTt1 (if_neg h1)))
theorem k_MO_sum {p : Program} {l : Launch} {e : Env} {R : Room} {s : State} {m : MethodId} {args : Array Value} {below : List Frame} {meth : Method} {c : Code} {Q : State → Prop} {E : Ev} {nL pc index : Nat} {lv : List (Nat × Value)} {rest : List Value} {cc : ByteArray} {own : String} {σ τ : St} {q : Int64}  (hC : Cx p s m args c cc nL own E)   (hl : Cond.methodLink own index y_MO_sum ∈ WL) (hR : 3 + 1 ≤ R.frames ∧ 8 + (6 + 11) + 86 ≤ R.locals) (hs8 : (rest.map fun v => v.category).sum ≤ 8) (d : decode cc pc = .ok (.invokevirtual index, 3)) (k : WS p l e R s m args below meth c Q E nL (pc + 3) lv rest (σ, (f_MO_sum τ), q)) : WS p l e R s m args below meth c Q E nL pc lv (.ref 35 :: rest) (σ, τ, q) := by
  exact wi_callV hC (n := 0) (vs := []) (rest := rest) 35 11 (by decide) rfl rfl rfl (c_MO_sum l E σ τ q  ) (by decide +kernel) wd_773 wd_662 wd_774 wd_775 ⟨rfl, rfl⟩ rfl rfl hl hR hs8 d k
set_option maxRecDepth 100000 in
set_option maxHeartbeats 400000 in
theorem c_MO_product (l : Launch) (E : Ev) (σ τ : St) (q : Int64) (a1 : Bool)  : MF l y_MO_product prog_14_method_29_code 3 none { frames := 3, cells := 0, slots := 0, locals := 86 } E [.ref 35, .int (bI a1)] (σ, τ, q) none (σ, (f_MO_product τ a1), q) := by
  refine MF_intro (lv0 := [(0, .ref 35), (1, .int (bI a1))]) (by decide) wd_776 (Nat.le_of_ble_eq_true rfl) rfl ?_
  intro p e s m args below meth c Q hC hr hk hQ
  replace hC : Cx p s m args c prog_14_method_29_code 3 "PartnerStackModel$RealOperationsModel" E := hC
  refine wi_aload_n hC 0 d_MO_product_0 rfl rfl ?_
  refine wi_sipush hC 130 (by decide) d_MO_product_1 ?_
  refine wi_aload_n hC 0 d_MO_product_4 rfl rfl ?_
  refine wi_iconst hC 0 (by decide) d_MO_product_5 ?_
  refine k_MO_unitOf hC (by unfold vp_in; decide) wd_723 (by decide) (Nat.le_of_ble_eq_true rfl) d_MO_product_6 ?_
  refine wi_aload_n hC 0 d_MO_product_9 rfl rfl ?_
  refine wi_iconst hC 1 (by decide) d_MO_product_10 ?_
  refine k_MO_unitOf hC (by unfold vp_in; decide) wd_723 (by decide) (Nat.le_of_ble_eq_true rfl) d_MO_product_11 ?_
  refine wi_iadd hC d_MO_product_14 ?_
  refine k_MO_empty hC (by decide) wd_770 (by decide) (Nat.le_of_ble_eq_true rfl) d_MO_product_15 ?_
  refine wi_nmM (fun s1 e_s1 => ?_)
  refine wi_iconst hC 0 (by decide) d_MO_product_18 ?_
  refine wi_istore_n hC [(2, .int 0), (0, .ref 35), (1, .int (bI a1))] d_MO_product_19 rfl (by decide) rfl ?_
  refine wi_loop ((b_MO_product_20)) (fun t2 => 0 ≤ (t2.1).toInt) (fun t2 => [(2, .int t2.1), (0, .ref 35), (1, .int (bI a1))]) (fun t2 => (σ, t2.2, q)) 59 ?_ (up_inv (b := (b_MO_product_20)) (fun t => t.1) 64 0 st_b_MO_product_20) (upf 64 0) (0, s1) (show (0 : Int) ≤ (0 : Int32).toInt by decide) (up_halt (b := (b_MO_product_20)) (fun t => t.1) 64 st_b_MO_product_20 (0, s1)) ?_
  · intro t2 hi_t2 hc_t2 hx_t2
    refine wi_iload_n hC 0 d_MO_product_20 rfl rfl ?_
    refine wi_bipush hC 64 (by decide) d_MO_product_21 ?_
    refine wi_icmp_ge hC 59 d_MO_product_23 (by decide) (fun h1 => ?_) (fun h1 => ?_)
    · skip
      exact hx_t2 (t2.1, t2.2) (by exact (if_pos h1))
    · skip
      refine wi_aload_n hC 1 d_MO_product_26 rfl rfl ?_
      refine wg_MO_part hC wd_677 d_MO_product_27 ?_
      refine wi_iconst hC 1 (by decide) d_MO_product_30 ?_
      refine wa_ld40 hC (by unfold vp_in; decide) d_MO_product_31 ?_
      refine wi_iload_n hC 0 d_MO_product_32 rfl rfl ?_
      refine wi_lshr hC d_MO_product_33 ?_
      refine wi_lconst hC 1 (by decide) d_MO_product_34 ?_
      refine wi_land hC d_MO_product_35 ?_
      refine wi_lconst hC 1 (by decide) d_MO_product_36 ?_
      obtain ⟨Tt3, eTt3⟩ : ∃ y : St, y = (
              if (jlshr (gJ t2.2 108 (jat 1)) t2.1) &&& 1 = 1 then
                let s2 : St := f_MO_join t2.2 (gJ t2.2 108 (jat 0)) t2.1 false
                s2
              else
                t2.2) := ⟨_, rfl⟩
      have Jt3 : ∀ (t3 : St), Tt3 = t3 → WS p l e { frames := 3, cells := 0, slots := 0, locals := 86 } s m args below meth c Q E 3 53 [(2, .int t2.1), (0, .ref 35), (1, .int (bI a1))] [] (σ, t3, q) := by
        intro t3  e_t3
        rw [eTt3] at e_t3
        obtain ⟨v1, e_v1⟩ : ∃ y : Int32, t2.1 + 1 = y := ⟨_, rfl⟩
        refine wi_iinc hC 0 v1 [(2, .int v1), (0, .ref 35), (1, .int (bI a1))] d_MO_product_53 rfl (by rw [← e_v1]; rfl) (by decide) rfl ?_
        refine wi_goto hC 20 d_MO_product_56 (by decide) ?_
        exact hc_t2 (v1, t3) (by subst e_v1; subst e_t3; exact (if_neg h1))
      refine wi_lcmp_ne hC 53 d_MO_product_37 d_MO_product_38 (by decide) (fun h2 => ?_) (fun h2 => ?_)
      · skip
        exact Jt3 t2.2 (by exact (Eq.trans eTt3 (if_neg h2)))
      · skip
        refine wi_aload_n hC 1 d_MO_product_41 rfl rfl ?_
        refine wi_aload_n hC 1 d_MO_product_42 rfl rfl ?_
        refine wg_MO_part hC wd_677 d_MO_product_43 ?_
        refine wi_iconst hC 0 (by decide) d_MO_product_46 ?_
        refine wa_ld40 hC (by unfold vp_in; decide) d_MO_product_47 ?_
        refine wi_iload_n hC 0 d_MO_product_48 rfl rfl ?_
        refine wi_iconst hC 0 (by decide) d_MO_product_49 ?_
        refine k_MO_join hC false rfl hi_t2 wd_771 (by decide) (Nat.le_of_ble_eq_true rfl) d_MO_product_50 ?_
        refine wi_nmM (fun s2 e_s2 => ?_)
        exact Jt3 s2 (by subst e_s2; exact (Eq.trans eTt3 (if_pos h2)))
  obtain ⟨t1, e_t1⟩ : ∃ y : Int32 × St, lpn ((b_MO_product_20)) (upf 64 0) (0, s1) = y := ⟨_, rfl⟩
  rw [e_t1]
  refine wi_aload_n hC 1 d_MO_product_59 rfl rfl ?_
  refine k_MO_highest hC  wd_761 (by decide) (Nat.le_of_ble_eq_true rfl) d_MO_product_60 ?_
  obtain ⟨Tt4, eTt4⟩ : ∃ y : St, y = (
          if (f_MO_highest t1.2) < 0 then
            let s3 : St := f_MO_answer t1.2 a1 0 0
            s3
          else
            let s4 : St := f_MO_make t1.2 a1
            s4) := ⟨_, rfl⟩
  have Jt4 : ∀ (t4 : St), Tt4 = t4 → WS p l e { frames := 3, cells := 0, slots := 0, locals := 86 } s m args below meth c Q E 3 81 [(2, .int t1.1), (0, .ref 35), (1, .int (bI a1))] [] (σ, t4, q) := by
    intro t4  e_t4
    rw [eTt4] at e_t4
    have hf : f_MO_product τ a1 = t4 := by subst e_t4; subst e_t1; subst e_s1; exact rfl
    exact wi_vret hC hr hk d_MO_product_81 rfl (congrArg (fun z => (σ, z, q)) hf).symm hQ
  refine wi_if_lt hC 74 d_MO_product_63 (by decide) (fun h3 => ?_) (fun h3 => ?_)
  · skip
    refine wi_aload_n hC 1 d_MO_product_74 rfl rfl ?_
    refine wi_iload_n hC 2 d_MO_product_75 rfl rfl ?_
    refine wi_iconst hC 0 (by decide) d_MO_product_76 ?_
    refine wi_lconst hC 0 (by decide) d_MO_product_77 ?_
    refine k_MO_answer hC a1 rfl wd_757 (by decide) (Nat.le_of_ble_eq_true rfl) d_MO_product_78 ?_
    refine wi_nmM (fun s3 e_s3 => ?_)
    exact Jt4 s3 (by subst e_s3; exact (Eq.trans eTt4 (if_pos h3)))
  · skip
    refine wi_aload_n hC 1 d_MO_product_66 rfl rfl ?_
    refine wi_iload_n hC 2 d_MO_product_67 rfl rfl ?_
    refine k_MO_make hC a1 rfl wd_772 (by decide) (Nat.le_of_ble_eq_true rfl) d_MO_product_68 ?_
    refine wi_nmM (fun s4 e_s4 => ?_)
    refine wi_goto hC 81 d_MO_product_71 (by decide) ?_
    exact Jt4 s4 (by subst e_s4; exact (Eq.trans eTt4 (if_neg h3)))
theorem k_MO_product {p : Program} {l : Launch} {e : Env} {R : Room} {s : State} {m : MethodId} {args : Array Value} {below : List Frame} {meth : Method} {c : Code} {Q : State → Prop} {E : Ev} {nL pc index : Nat} {lv : List (Nat × Value)} {rest : List Value} {cc : ByteArray} {own : String} {σ τ : St} {q : Int64}  (hC : Cx p s m args c cc nL own E) {x_a1 : Int32} (a1 : Bool) (hx_a1 : x_a1 = bI a1)  (hl : Cond.methodLink own index y_MO_product ∈ WL) (hR : 3 + 1 ≤ R.frames ∧ 8 + (3 + 11) + 86 ≤ R.locals) (hs8 : (rest.map fun v => v.category).sum ≤ 8) (d : decode cc pc = .ok (.invokevirtual index, 3)) (k : WS p l e R s m args below meth c Q E nL (pc + 3) lv rest (σ, (f_MO_product τ a1), q)) : WS p l e R s m args below meth c Q E nL pc lv (.int x_a1 :: .ref 35 :: rest) (σ, τ, q) := by
  subst hx_a1
  exact wi_callV hC (n := 1) (vs := [.int (bI a1)]) (rest := rest) 35 11 (by decide) rfl rfl rfl (c_MO_product l E σ τ q a1 ) (by decide +kernel) wd_776 wd_662 wd_777 wd_778 ⟨rfl, rfl⟩ rfl rfl hl hR hs8 d k
set_option maxRecDepth 100000 in
set_option maxHeartbeats 400000 in
theorem c_MO_quotient (l : Launch) (E : Ev) (σ τ : St) (q : Int64) (a1 : Bool)  : MF l y_MO_quotient prog_14_method_30_code 7 none { frames := 3, cells := 0, slots := 0, locals := 86 } E [.ref 35, .int (bI a1)] (σ, τ, q) none (σ, (f_MO_quotient τ a1), q) := by
  refine MF_intro (lv0 := [(0, .ref 35), (1, .int (bI a1))]) (by decide) wd_779 (Nat.le_of_ble_eq_true rfl) rfl ?_
  intro p e s m args below meth c Q hC hr hk hQ
  replace hC : Cx p s m args c prog_14_method_30_code 7 "PartnerStackModel$RealOperationsModel" E := hC
  refine wi_aload_n hC 0 d_MO_quotient_0 rfl rfl ?_
  refine wi_iconst hC 0 (by decide) d_MO_quotient_1 ?_
  refine k_MO_isNothing hC (by unfold vp_in; decide) wd_709 (by decide) (Nat.le_of_ble_eq_true rfl) d_MO_quotient_2 ?_
  refine wi_z_eq (b := (f_MO_isNothing τ 0)) hC 16 d_MO_quotient_5 (by decide) (fun h1 => ?_) (fun h1 => ?_)
  · skip
    refine wi_aload_n hC 0 d_MO_quotient_16 rfl rfl ?_
    refine wi_sipush hC 200 (by decide) d_MO_quotient_17 ?_
    refine wi_aload_n hC 0 d_MO_quotient_20 rfl rfl ?_
    refine wi_iconst hC 0 (by decide) d_MO_quotient_21 ?_
    refine k_MO_unitOf hC (by unfold vp_in; decide) wd_723 (by decide) (Nat.le_of_ble_eq_true rfl) d_MO_quotient_22 ?_
    refine wi_aload_n hC 0 d_MO_quotient_25 rfl rfl ?_
    refine wi_iconst hC 1 (by decide) d_MO_quotient_26 ?_
    refine k_MO_unitOf hC (by unfold vp_in; decide) wd_723 (by decide) (Nat.le_of_ble_eq_true rfl) d_MO_quotient_27 ?_
    refine wi_isub hC d_MO_quotient_30 ?_
    refine wi_sipush hC 136 (by decide) d_MO_quotient_31 ?_
    refine wi_isub hC d_MO_quotient_34 ?_
    refine k_MO_empty hC (by decide) wd_770 (by decide) (Nat.le_of_ble_eq_true rfl) d_MO_quotient_35 ?_
    refine wi_nmM (fun s1 e_s1 => ?_)
    refine wi_lconst hC 0 (by decide) d_MO_quotient_38 ?_
    refine wi_lstore_n hC [(2, .long 0), (0, .ref 35), (1, .int (bI a1))] d_MO_quotient_39 rfl (by decide) rfl ?_
    refine wi_sipush hC 199 (by decide) d_MO_quotient_40 ?_
    refine wi_istore hC [(4, .int 199), (2, .long 0), (0, .ref 35), (1, .int (bI a1))] d_MO_quotient_43 (by decide) rfl ?_
    refine wi_loop ((b_MO_quotient_45)) (fun t2 => (t2.1).toInt ≤ 199) (fun t2 => [(4, .int t2.1), (2, .long t2.2.1), (0, .ref 35), (1, .int (bI a1))]) (fun t2 => (σ, t2.2.2, q)) 155 ?_ (dn_inv (b := (b_MO_quotient_45)) (fun t => t.1) 199 st_b_MO_quotient_45) (dnf 199) (199, 0, s1) (show (199 : Int32).toInt ≤ 199 by decide) (dn_halt (b := (b_MO_quotient_45)) (fun t => t.1) st_b_MO_quotient_45 (199, 0, s1)) ?_
    · intro t2 hi_t2 hc_t2 hx_t2
      refine wi_iload hC 0 d_MO_quotient_45 rfl ?_
      refine wi_if_lt hC 155 d_MO_quotient_47 (by decide) (fun h2 => ?_) (fun h2 => ?_)
      · skip
        exact hx_t2 (t2.1, t2.2.1, t2.2.2) (by exact (if_pos h2))
      · skip
        refine wi_lload_n hC 1 d_MO_quotient_50 rfl rfl ?_
        refine wi_lconst hC 0 (by decide) d_MO_quotient_51 ?_
        obtain ⟨Tt3, eTt3⟩ : ∃ y : Bool, y = (
                if 0 ≤ t2.2.1 then
                  false
                else
                  true) := ⟨_, rfl⟩
        have Jt3 : ∀ (t3 : Bool), Tt3 = t3 → WS p l e { frames := 3, cells := 0, slots := 0, locals := 86 } s m args below meth c Q E 7 61 [(4, .int t2.1), (2, .long t2.2.1), (0, .ref 35), (1, .int (bI a1))] [.int (bI t3)] (σ, t2.2.2, q) := by
          intro t3  e_t3
          rw [eTt3] at e_t3
          refine wi_istore hC [(5, .int (bI t3)), (4, .int t2.1), (2, .long t2.2.1), (0, .ref 35), (1, .int (bI a1))] d_MO_quotient_61 (by decide) rfl ?_
          refine wi_ldc2 hC wd_749 d_MO_quotient_63 ?_
          refine wi_lload_n hC 2 d_MO_quotient_66 rfl rfl ?_
          refine wi_lmul hC d_MO_quotient_67 ?_
          refine wi_iload hC 1 d_MO_quotient_68 rfl ?_
          refine wi_sipush hC 136 (by decide) d_MO_quotient_70 ?_
          obtain ⟨Tt4, eTt4⟩ : ∃ y : Int64, y = (
                  if t2.1 < 136 then
                    0
                  else
                    (jlshr (gJ t2.2.2 108 (jat 0)) (t2.1 - 136)) &&& 1) := ⟨_, rfl⟩
          have Jt4 : ∀ (t4 : Int64), Tt4 = t4 → WS p l e { frames := 3, cells := 0, slots := 0, locals := 86 } s m args below meth c Q E 7 95 [(5, .int (bI t3)), (4, .int t2.1), (2, .long t2.2.1), (0, .ref 35), (1, .int (bI a1))] [.long t4, .long (2 * t2.2.1)] (σ, t2.2.2, q) := by
            intro t4  e_t4
            rw [eTt4] at e_t4
            refine wi_ladd hC d_MO_quotient_95 ?_
            refine wi_nmJ (fun v1 e_v1 => ?_)
            refine wi_lstore_n hC [(2, .long v1), (5, .int (bI t3)), (4, .int t2.1), (0, .ref 35), (1, .int (bI a1))] d_MO_quotient_96 rfl (by decide) rfl ?_
            refine wi_iload hC 1 d_MO_quotient_97 rfl ?_
            obtain ⟨Tt5, eTt5⟩ : ∃ y : Bool, y = (
                    if t3 = true then
                      true
                    else
                      if f_MO_below v1 (gJ t2.2.2 108 (jat 1)) = true then
                        false
                      else
                        true) := ⟨_, rfl⟩
            have Jt5 : ∀ (t5 : Bool), Tt5 = t5 → WS p l e { frames := 3, cells := 0, slots := 0, locals := 86 } s m args below meth c Q E 7 120 [(2, .long v1), (5, .int (bI t3)), (4, .int t2.1), (0, .ref 35), (1, .int (bI a1))] [.int (bI t5)] (σ, t2.2.2, q) := by
              intro t5  e_t5
              rw [eTt5] at e_t5
              refine wi_istore hC [(6, .int (bI t5)), (2, .long v1), (5, .int (bI t3)), (4, .int t2.1), (0, .ref 35), (1, .int (bI a1))] d_MO_quotient_120 (by decide) rfl ?_
              refine wi_iload hC 0 d_MO_quotient_122 rfl ?_
              obtain ⟨Tt6, eTt6⟩ : ∃ y : Int64, y = (
                      if t5 = true then
                        v1 - (gJ t2.2.2 108 (jat 1))
                      else
                        v1) := ⟨_, rfl⟩
              have Jt6 : ∀ (t6 : Int64), Tt6 = t6 → WS p l e { frames := 3, cells := 0, slots := 0, locals := 86 } s m args below meth c Q E 7 139 [(6, .int (bI t5)), (2, .long v1), (5, .int (bI t3)), (4, .int t2.1), (0, .ref 35), (1, .int (bI a1))] [.long t6] (σ, t2.2.2, q) := by
                intro t6  e_t6
                rw [eTt6] at e_t6
                refine wi_lstore_n hC [(2, .long t6), (6, .int (bI t5)), (5, .int (bI t3)), (4, .int t2.1), (0, .ref 35), (1, .int (bI a1))] d_MO_quotient_139 rfl (by decide) rfl ?_
                refine wi_aload_n hC 4 d_MO_quotient_140 rfl rfl ?_
                refine wg_MO_row hC wd_730 d_MO_quotient_141 ?_
                refine wi_iload hC 3 d_MO_quotient_144 rfl ?_
                refine wi_iload hC 1 d_MO_quotient_146 rfl ?_
                refine wa_st41 hC t5 rfl (vin_of (lo_n h2) (hi_le hi_t2 (by decide))) d_MO_quotient_148 ?_
                refine wi_nmM (fun s2 e_s2 => ?_)
                obtain ⟨v2, e_v2⟩ : ∃ y : Int32, t2.1 + (-1) = y := ⟨_, rfl⟩
                refine wi_iinc hC 3 v2 [(4, .int v2), (2, .long t6), (6, .int (bI t5)), (5, .int (bI t3)), (0, .ref 35), (1, .int (bI a1))] d_MO_quotient_149 rfl (by rw [← e_v2]; rfl) (by decide) rfl ?_
                refine wi_goto hC 45 d_MO_quotient_152 (by decide) ?_
                refine wi_lv [0, 1, 4, 5] [(4, .int v2), (2, .long t6), (0, .ref 35), (1, .int (bI a1))] rfl ?_
                exact hc_t2 (v2, t6, s2) (by subst e_v2; subst e_s2; subst e_t6; subst e_t5; subst e_v1; subst e_t4; subst e_t3; exact (if_neg h2))
              refine wi_z_eq (b := t5) hC 138 d_MO_quotient_124 (by decide) (fun h7 => ?_) (fun h7 => ?_)
              · skip
                refine wi_lload_n hC 1 d_MO_quotient_138 rfl rfl ?_
                exact Jt6 v1 (by exact (Eq.trans eTt6 (if_neg h7)))
              · skip
                refine wi_lload_n hC 1 d_MO_quotient_127 rfl rfl ?_
                refine wi_aload_n hC 4 d_MO_quotient_128 rfl rfl ?_
                refine wg_MO_part hC wd_677 d_MO_quotient_129 ?_
                refine wi_iconst hC 1 (by decide) d_MO_quotient_132 ?_
                refine wa_ld40 hC (by unfold vp_in; decide) d_MO_quotient_133 ?_
                refine wi_lsub hC d_MO_quotient_134 ?_
                refine wi_goto hC 139 d_MO_quotient_135 (by decide) ?_
                exact Jt6 (v1 - (gJ t2.2.2 108 (jat 1))) (by exact (Eq.trans eTt6 (if_pos h7)))
            refine wi_z_ne (b := t3) hC 115 d_MO_quotient_99 (by decide) (fun h5 => ?_) (fun h5 => ?_)
            · skip
              refine wi_iconst hC 1 (by decide) d_MO_quotient_115 ?_
              refine wi_goto hC 120 d_MO_quotient_116 (by decide) ?_
              exact Jt5 true (by exact (Eq.trans eTt5 (if_pos h5)))
            · skip
              refine wi_lload_n hC 0 d_MO_quotient_102 rfl rfl ?_
              refine wi_aload_n hC 3 d_MO_quotient_103 rfl rfl ?_
              refine wg_MO_part hC wd_677 d_MO_quotient_104 ?_
              refine wi_iconst hC 1 (by decide) d_MO_quotient_107 ?_
              refine wa_ld40 hC (by unfold vp_in; decide) d_MO_quotient_108 ?_
              refine k_MO_below hC  wd_692 (by decide) (Nat.le_of_ble_eq_true rfl) d_MO_quotient_109 ?_
              refine wi_z_ne (b := (f_MO_below v1 (gJ t2.2.2 108 (jat 1)))) hC 119 d_MO_quotient_112 (by decide) (fun h6 => ?_) (fun h6 => ?_)
              · skip
                refine wi_iconst hC 0 (by decide) d_MO_quotient_119 ?_
                exact Jt5 false (by exact (Eq.trans eTt5 (Eq.trans (if_neg h5) (if_pos h6))))
              · skip
                refine wi_iconst hC 1 (by decide) d_MO_quotient_115 ?_
                refine wi_goto hC 120 d_MO_quotient_116 (by decide) ?_
                exact Jt5 true (by exact (Eq.trans eTt5 (Eq.trans (if_neg h5) (if_neg h6))))
          refine wi_icmp_lt hC 94 d_MO_quotient_73 (by decide) (fun h4 => ?_) (fun h4 => ?_)
          · skip
            refine wi_lconst hC 0 (by decide) d_MO_quotient_94 ?_
            exact Jt4 0 (by exact (Eq.trans eTt4 (if_pos h4)))
          · skip
            refine wi_aload_n hC 3 d_MO_quotient_76 rfl rfl ?_
            refine wg_MO_part hC wd_677 d_MO_quotient_77 ?_
            refine wi_iconst hC 0 (by decide) d_MO_quotient_80 ?_
            refine wa_ld40 hC (by unfold vp_in; decide) d_MO_quotient_81 ?_
            refine wi_iload hC 1 d_MO_quotient_82 rfl ?_
            refine wi_sipush hC 136 (by decide) d_MO_quotient_84 ?_
            refine wi_isub hC d_MO_quotient_87 ?_
            refine wi_lshr hC d_MO_quotient_88 ?_
            refine wi_lconst hC 1 (by decide) d_MO_quotient_89 ?_
            refine wi_land hC d_MO_quotient_90 ?_
            refine wi_goto hC 95 d_MO_quotient_91 (by decide) ?_
            exact Jt4 ((jlshr (gJ t2.2.2 108 (jat 0)) (t2.1 - 136)) &&& 1) (by exact (Eq.trans eTt4 (if_neg h4)))
        refine wi_lcmp_ge hC 60 d_MO_quotient_52 d_MO_quotient_53 (by decide) (fun h3 => ?_) (fun h3 => ?_)
        · skip
          refine wi_iconst hC 0 (by decide) d_MO_quotient_60 ?_
          exact Jt3 false (by exact (Eq.trans eTt3 (if_pos h3)))
        · skip
          refine wi_iconst hC 1 (by decide) d_MO_quotient_56 ?_
          refine wi_goto hC 61 d_MO_quotient_57 (by decide) ?_
          exact Jt3 true (by exact (Eq.trans eTt3 (if_neg h3)))
    obtain ⟨t1, e_t1⟩ : ∃ y : Int32 × Int64 × St, lpn ((b_MO_quotient_45)) (dnf 199) (199, 0, s1) = y := ⟨_, rfl⟩
    rw [e_t1]
    refine wi_aload_n hC 2 d_MO_quotient_155 rfl rfl ?_
    refine wi_lload_n hC 1 d_MO_quotient_156 rfl rfl ?_
    refine wi_lconst hC 0 (by decide) d_MO_quotient_157 ?_
    obtain ⟨Tt7, eTt7⟩ : ∃ y : Bool, y = (
            if t1.2.1 = 0 then
              false
            else
              true) := ⟨_, rfl⟩
    have Jt7 : ∀ (t7 : Bool), Tt7 = t7 → WS p l e { frames := 3, cells := 0, slots := 0, locals := 86 } s m args below meth c Q E 7 167 [(4, .int t1.1), (2, .long t1.2.1), (0, .ref 35), (1, .int (bI a1))] [.int (bI t7), .ref 35] (σ, t1.2.2, q) := by
      intro t7  e_t7
      rw [eTt7] at e_t7
      refine wp_MO_more hC t7 rfl wd_729 d_MO_quotient_167 ?_
      refine wi_nmM (fun s3 e_s3 => ?_)
      refine wi_aload_n hC 2 d_MO_quotient_170 rfl rfl ?_
      refine wi_iload_n hC 3 d_MO_quotient_171 rfl rfl ?_
      refine k_MO_make hC a1 rfl wd_772 (by decide) (Nat.le_of_ble_eq_true rfl) d_MO_quotient_172 ?_
      refine wi_nmM (fun s4 e_s4 => ?_)
      have hf : f_MO_quotient τ a1 = s4 := by subst e_s4; subst e_s3; subst e_t7; subst e_t1; subst e_s1; exact (if_neg h1)
      exact wi_vret hC hr hk d_MO_quotient_175 rfl (congrArg (fun z => (σ, z, q)) hf).symm hQ
    refine wi_lcmp_eq hC 166 d_MO_quotient_158 d_MO_quotient_159 (by decide) (fun h8 => ?_) (fun h8 => ?_)
    · skip
      refine wi_iconst hC 0 (by decide) d_MO_quotient_166 ?_
      exact Jt7 false (by exact (Eq.trans eTt7 (if_pos h8)))
    · skip
      refine wi_iconst hC 1 (by decide) d_MO_quotient_162 ?_
      refine wi_goto hC 167 d_MO_quotient_163 (by decide) ?_
      exact Jt7 true (by exact (Eq.trans eTt7 (if_neg h8)))
  · skip
    refine wi_aload_n hC 0 d_MO_quotient_8 rfl rfl ?_
    refine wi_iload_n hC 1 d_MO_quotient_9 rfl rfl ?_
    refine wi_iconst hC 0 (by decide) d_MO_quotient_10 ?_
    refine wi_lconst hC 0 (by decide) d_MO_quotient_11 ?_
    refine k_MO_answer hC a1 rfl wd_757 (by decide) (Nat.le_of_ble_eq_true rfl) d_MO_quotient_12 ?_
    refine wi_nmM (fun s5 e_s5 => ?_)
    have hf : f_MO_quotient τ a1 = s5 := by subst e_s5; exact (if_pos h1)
    exact wi_vret hC hr hk d_MO_quotient_15 rfl (congrArg (fun z => (σ, z, q)) hf).symm hQ
theorem k_MO_quotient {p : Program} {l : Launch} {e : Env} {R : Room} {s : State} {m : MethodId} {args : Array Value} {below : List Frame} {meth : Method} {c : Code} {Q : State → Prop} {E : Ev} {nL pc index : Nat} {lv : List (Nat × Value)} {rest : List Value} {cc : ByteArray} {own : String} {σ τ : St} {q : Int64}  (hC : Cx p s m args c cc nL own E) {x_a1 : Int32} (a1 : Bool) (hx_a1 : x_a1 = bI a1)  (hl : Cond.methodLink own index y_MO_quotient ∈ WL) (hR : 3 + 1 ≤ R.frames ∧ 8 + (7 + 11) + 86 ≤ R.locals) (hs8 : (rest.map fun v => v.category).sum ≤ 8) (d : decode cc pc = .ok (.invokevirtual index, 3)) (k : WS p l e R s m args below meth c Q E nL (pc + 3) lv rest (σ, (f_MO_quotient τ a1), q)) : WS p l e R s m args below meth c Q E nL pc lv (.int x_a1 :: .ref 35 :: rest) (σ, τ, q) := by
  subst hx_a1
  exact wi_callV hC (n := 1) (vs := [.int (bI a1)]) (rest := rest) 35 11 (by decide) rfl rfl rfl (c_MO_quotient l E σ τ q a1 ) (by decide +kernel) wd_779 wd_662 wd_780 wd_781 ⟨rfl, rfl⟩ rfl rfl hl hR hs8 d k
set_option maxRecDepth 100000 in
set_option maxHeartbeats 400000 in
theorem c_MO_root (l : Launch) (E : Ev) (σ τ : St) (q : Int64)   : MF l y_MO_root prog_14_method_31_code 19 none { frames := 3, cells := 0, slots := 0, locals := 86 } E [.ref 35] (σ, τ, q) none (σ, (f_MO_root τ), q) := by
  refine MF_intro (lv0 := [(0, .ref 35)]) (by decide) wd_782 (Nat.le_of_ble_eq_true rfl) rfl ?_
  intro p e s m args below meth c Q hC hr hk hQ
  replace hC : Cx p s m args c prog_14_method_31_code 19 "PartnerStackModel$RealOperationsModel" E := hC
  refine wi_aload_n hC 0 d_MO_root_0 rfl rfl ?_
  refine wi_iconst hC 0 (by decide) d_MO_root_1 ?_
  refine k_MO_isNothing hC (by unfold vp_in; decide) wd_709 (by decide) (Nat.le_of_ble_eq_true rfl) d_MO_root_2 ?_
  refine wi_z_eq (b := (f_MO_isNothing τ 0)) hC 21 d_MO_root_5 (by decide) (fun h1 => ?_) (fun h1 => ?_)
  · skip
    refine wi_aload_n hC 0 d_MO_root_21 rfl rfl ?_
    refine wi_iconst hC 0 (by decide) d_MO_root_22 ?_
    refine k_MO_unitOf hC (by unfold vp_in; decide) wd_723 (by decide) (Nat.le_of_ble_eq_true rfl) d_MO_root_23 ?_
    refine wi_nmI (fun v1 e_v1 => ?_)
    refine wi_istore_n hC [(1, .int v1), (0, .ref 35)] d_MO_root_26 rfl (by decide) rfl ?_
    refine wi_iload_n hC 0 d_MO_root_27 rfl rfl ?_
    refine wi_iconst hC 2 (by decide) d_MO_root_28 ?_
    refine wi_irem hC (by decide) d_MO_root_29 ?_
    obtain ⟨Tt1, eTt1⟩ : ∃ y : Bool, y = (
            if jrem v1 2 = 0 then
              false
            else
              true) := ⟨_, rfl⟩
    have Jt1 : ∀ (t1 : Bool), Tt1 = t1 → WS p l e { frames := 3, cells := 0, slots := 0, locals := 86 } s m args below meth c Q E 19 38 [(1, .int v1), (0, .ref 35)] [.int (bI t1)] (σ, τ, q) := by
      intro t1  e_t1
      rw [eTt1] at e_t1
      refine wi_istore_n hC [(2, .int (bI t1)), (1, .int v1), (0, .ref 35)] d_MO_root_38 rfl (by decide) rfl ?_
      refine wi_iload_n hC 0 d_MO_root_39 rfl rfl ?_
      obtain ⟨Tt2, eTt2⟩ : ∃ y : Int32, y = (
              if t1 = true then
                v1 - 1
              else
                v1) := ⟨_, rfl⟩
      have Jt2 : ∀ (t2 : Int32), Tt2 = t2 → WS p l e { frames := 3, cells := 0, slots := 0, locals := 86 } s m args below meth c Q E 19 50 [(2, .int (bI t1)), (1, .int v1), (0, .ref 35)] [.int t2] (σ, τ, q) := by
        intro t2  e_t2
        rw [eTt2] at e_t2
        refine wi_iconst hC 2 (by decide) d_MO_root_50 ?_
        refine wi_idiv hC (by decide) d_MO_root_51 ?_
        refine wi_nmI (fun v2 e_v2 => ?_)
        refine wi_istore_n hC [(3, .int v2), (2, .int (bI t1)), (1, .int v1), (0, .ref 35)] d_MO_root_52 rfl (by decide) rfl ?_
        refine wi_aload_n hC 3 d_MO_root_53 rfl rfl ?_
        refine wi_bipush hC 104 (by decide) d_MO_root_54 ?_
        refine wi_iload_n hC 0 d_MO_root_56 rfl rfl ?_
        refine wi_bipush hC 70 (by decide) d_MO_root_57 ?_
        refine wi_isub hC d_MO_root_59 ?_
        refine k_MO_empty hC (by decide) wd_770 (by decide) (Nat.le_of_ble_eq_true rfl) d_MO_root_60 ?_
        refine wi_nmM (fun s1 e_s1 => ?_)
        refine wi_lconst hC 0 (by decide) d_MO_root_63 ?_
        refine wi_lstore hC [(4, .long 0), (3, .int v2), (2, .int (bI t1)), (1, .int v1), (0, .ref 35)] d_MO_root_64 (by decide) rfl ?_
        refine wi_lconst hC 0 (by decide) d_MO_root_66 ?_
        refine wi_lstore hC [(6, .long 0), (4, .long 0), (3, .int v2), (2, .int (bI t1)), (1, .int v1), (0, .ref 35)] d_MO_root_67 (by decide) rfl ?_
        refine wi_lconst hC 0 (by decide) d_MO_root_69 ?_
        refine wi_lstore hC [(8, .long 0), (6, .long 0), (4, .long 0), (3, .int v2), (2, .int (bI t1)), (1, .int v1), (0, .ref 35)] d_MO_root_70 (by decide) rfl ?_
        refine wi_lconst hC 0 (by decide) d_MO_root_72 ?_
        refine wi_lstore hC [(10, .long 0), (8, .long 0), (6, .long 0), (4, .long 0), (3, .int v2), (2, .int (bI t1)), (1, .int v1), (0, .ref 35)] d_MO_root_73 (by decide) rfl ?_
        refine wi_bipush hC 103 (by decide) d_MO_root_75 ?_
        refine wi_istore hC [(12, .int 103), (10, .long 0), (8, .long 0), (6, .long 0), (4, .long 0), (3, .int v2), (2, .int (bI t1)), (1, .int v1), (0, .ref 35)] d_MO_root_77 (by decide) rfl ?_
        refine wi_loop ((b_MO_root_79 t1)) (fun t4 => (t4.1).toInt ≤ 103) (fun t4 => [(12, .int t4.1), (10, .long t4.2.1), (8, .long t4.2.2.1), (6, .long t4.2.2.2.1), (4, .long t4.2.2.2.2.1), (3, .int v2), (2, .int (bI t1)), (1, .int v1), (0, .ref 35)]) (fun t4 => (σ, t4.2.2.2.2.2, q)) 323 ?_ (dn_inv (b := (b_MO_root_79 t1)) (fun t => t.1) 103 (st_b_MO_root_79 t1)) (dnf 103) (103, 0, 0, 0, 0, s1) (show (103 : Int32).toInt ≤ 103 by decide) (dn_halt (b := (b_MO_root_79 t1)) (fun t => t.1) (st_b_MO_root_79 t1) (103, 0, 0, 0, 0, s1)) ?_
        · intro t4 hi_t4 hc_t4 hx_t4
          refine wi_iload hC 0 d_MO_root_79 rfl ?_
          refine wi_if_lt hC 323 d_MO_root_81 (by decide) (fun h4 => ?_) (fun h4 => ?_)
          · skip
            exact hx_t4 (t4.1, t4.2.1, t4.2.2.1, t4.2.2.2.1, t4.2.2.2.2.1, t4.2.2.2.2.2) (by exact (if_pos h4))
          · skip
            refine wi_iconst hC 0 (by decide) d_MO_root_84 ?_
            refine wi_istore hC [(13, .int 0), (12, .int t4.1), (10, .long t4.2.1), (8, .long t4.2.2.1), (6, .long t4.2.2.2.1), (4, .long t4.2.2.2.2.1), (3, .int v2), (2, .int (bI t1)), (1, .int v1), (0, .ref 35)] d_MO_root_85 (by decide) rfl ?_
            refine wi_iconst hC 1 (by decide) d_MO_root_87 ?_
            refine wi_istore hC [(14, .int 1), (13, .int 0), (12, .int t4.1), (10, .long t4.2.1), (8, .long t4.2.2.1), (6, .long t4.2.2.2.1), (4, .long t4.2.2.2.2.1), (3, .int v2), (2, .int (bI t1)), (1, .int v1), (0, .ref 35)] d_MO_root_88 (by decide) rfl ?_
            refine wi_loop ((b_MO_root_90 t1 t4)) (fun t6 => (t6.1).toInt ≤ 1) (fun t6 => [(14, .int t6.1), (13, .int t6.2), (12, .int t4.1), (10, .long t4.2.1), (8, .long t4.2.2.1), (6, .long t4.2.2.2.1), (4, .long t4.2.2.2.2.1), (3, .int v2), (2, .int (bI t1)), (1, .int v1), (0, .ref 35)]) (fun t6 => (σ, t4.2.2.2.2.2, q)) 159 ?_ (dn_inv (b := (b_MO_root_90 t1 t4)) (fun t => t.1) 1 (st_b_MO_root_90 t1 t4)) (dnf 1) (1, 0) (show (1 : Int32).toInt ≤ 1 by decide) (dn_halt (b := (b_MO_root_90 t1 t4)) (fun t => t.1) (st_b_MO_root_90 t1 t4) (1, 0)) ?_
            · intro t6 hi_t6 hc_t6 hx_t6
              refine wi_iload hC 0 d_MO_root_90 rfl ?_
              refine wi_if_lt hC 159 d_MO_root_92 (by decide) (fun h5 => ?_) (fun h5 => ?_)
              · skip
                exact hx_t6 (t6.1, t6.2) (by exact (if_pos h5))
              · skip
                refine wi_iconst hC 2 (by decide) d_MO_root_95 ?_
                refine wi_iload hC 2 d_MO_root_96 rfl ?_
                refine wi_imul hC d_MO_root_98 ?_
                refine wi_iload hC 0 d_MO_root_99 rfl ?_
                refine wi_iadd hC d_MO_root_101 ?_
                refine wi_sipush hC 140 (by decide) d_MO_root_102 ?_
                refine wi_isub hC d_MO_root_105 ?_
                refine wi_iload_n hC 8 d_MO_root_106 rfl rfl ?_
                obtain ⟨Tt7, eTt7⟩ : ∃ y : Bool, y = (
                        if t1 = true then
                          true
                        else
                          false) := ⟨_, rfl⟩
                have Jt7 : ∀ (t7 : Bool), Tt7 = t7 → WS p l e { frames := 3, cells := 0, slots := 0, locals := 86 } s m args below meth c Q E 19 115 [(14, .int t6.1), (13, .int t6.2), (12, .int t4.1), (10, .long t4.2.1), (8, .long t4.2.2.1), (6, .long t4.2.2.2.1), (4, .long t4.2.2.2.2.1), (3, .int v2), (2, .int (bI t1)), (1, .int v1), (0, .ref 35)] [.int (bI t7), .int (((2 * t4.1) + t6.1) - 140)] (σ, t4.2.2.2.2.2, q) := by
                  intro t7  e_t7
                  rw [eTt7] at e_t7
                  refine wi_isub hC d_MO_root_115 ?_
                  refine wi_nmI (fun v3 e_v3 => ?_)
                  refine wi_istore hC [(15, .int v3), (14, .int t6.1), (13, .int t6.2), (12, .int t4.1), (10, .long t4.2.1), (8, .long t4.2.2.1), (6, .long t4.2.2.2.1), (4, .long t4.2.2.2.2.1), (3, .int v2), (2, .int (bI t1)), (1, .int v1), (0, .ref 35)] d_MO_root_116 (by decide) rfl ?_
                  refine wi_iconst hC 2 (by decide) d_MO_root_118 ?_
                  refine wi_iload hC 2 d_MO_root_119 rfl ?_
                  refine wi_imul hC d_MO_root_121 ?_
                  refine wi_iload hC 0 d_MO_root_122 rfl ?_
                  obtain ⟨Tt8, eTt8⟩ : ∃ y : Int32, y = (
                          if v3 < 0 then
                            0
                          else
                            if 64 ≤ v3 then
                              0
                            else
                              Int64.toInt32 ((jlshr (gJ t4.2.2.2.2.2 108 (jat 0)) v3) &&& 1)) := ⟨_, rfl⟩
                  have Jt8 : ∀ (t8 : Int32), Tt8 = t8 → WS p l e { frames := 3, cells := 0, slots := 0, locals := 86 } s m args below meth c Q E 19 150 [(15, .int v3), (14, .int t6.1), (13, .int t6.2), (12, .int t4.1), (10, .long t4.2.1), (8, .long t4.2.2.1), (6, .long t4.2.2.2.1), (4, .long t4.2.2.2.2.1), (3, .int v2), (2, .int (bI t1)), (1, .int v1), (0, .ref 35)] [.int t8, .int (2 * t6.2)] (σ, t4.2.2.2.2.2, q) := by
                    intro t8  e_t8
                    rw [eTt8] at e_t8
                    refine wi_iadd hC d_MO_root_150 ?_
                    refine wi_nmI (fun v4 e_v4 => ?_)
                    refine wi_istore hC [(13, .int v4), (15, .int v3), (14, .int t6.1), (12, .int t4.1), (10, .long t4.2.1), (8, .long t4.2.2.1), (6, .long t4.2.2.2.1), (4, .long t4.2.2.2.2.1), (3, .int v2), (2, .int (bI t1)), (1, .int v1), (0, .ref 35)] d_MO_root_151 (by decide) rfl ?_
                    obtain ⟨v5, e_v5⟩ : ∃ y : Int32, t6.1 + (-1) = y := ⟨_, rfl⟩
                    refine wi_iinc hC 2 v5 [(14, .int v5), (13, .int v4), (15, .int v3), (12, .int t4.1), (10, .long t4.2.1), (8, .long t4.2.2.1), (6, .long t4.2.2.2.1), (4, .long t4.2.2.2.2.1), (3, .int v2), (2, .int (bI t1)), (1, .int v1), (0, .ref 35)] d_MO_root_153 rfl (by rw [← e_v5]; rfl) (by decide) rfl ?_
                    refine wi_goto hC 90 d_MO_root_156 (by decide) ?_
                    refine wi_lv [0, 1, 3, 4, 5, 6, 7, 8, 9, 10, 11] [(14, .int v5), (13, .int v4), (12, .int t4.1), (10, .long t4.2.1), (8, .long t4.2.2.1), (6, .long t4.2.2.2.1), (4, .long t4.2.2.2.2.1), (3, .int v2), (2, .int (bI t1)), (1, .int v1), (0, .ref 35)] rfl ?_
                    exact hc_t6 (v5, v4) (by subst e_v5; subst e_v4; subst e_t8; subst e_v3; subst e_t7; exact (if_neg h5))
                  refine wi_if_lt hC 149 d_MO_root_124 (by decide) (fun h7 => ?_) (fun h7 => ?_)
                  · skip
                    refine wi_iconst hC 0 (by decide) d_MO_root_149 ?_
                    exact Jt8 0 (by exact (Eq.trans eTt8 (if_pos h7)))
                  · skip
                    refine wi_iload hC 0 d_MO_root_127 rfl ?_
                    refine wi_bipush hC 64 (by decide) d_MO_root_129 ?_
                    refine wi_icmp_ge hC 149 d_MO_root_131 (by decide) (fun h8 => ?_) (fun h8 => ?_)
                    · skip
                      refine wi_iconst hC 0 (by decide) d_MO_root_149 ?_
                      exact Jt8 0 (by exact (Eq.trans eTt8 (Eq.trans (if_neg h7) (if_pos h8))))
                    · skip
                      refine wi_aload_n hC 11 d_MO_root_134 rfl rfl ?_
                      refine wg_MO_part hC wd_677 d_MO_root_135 ?_
                      refine wi_iconst hC 0 (by decide) d_MO_root_138 ?_
                      refine wa_ld40 hC (by unfold vp_in; decide) d_MO_root_139 ?_
                      refine wi_iload hC 0 d_MO_root_140 rfl ?_
                      refine wi_lshr hC d_MO_root_142 ?_
                      refine wi_lconst hC 1 (by decide) d_MO_root_143 ?_
                      refine wi_land hC d_MO_root_144 ?_
                      refine wi_l2i hC d_MO_root_145 ?_
                      refine wi_goto hC 150 d_MO_root_146 (by decide) ?_
                      exact Jt8 (Int64.toInt32 ((jlshr (gJ t4.2.2.2.2.2 108 (jat 0)) v3) &&& 1)) (by exact (Eq.trans eTt8 (Eq.trans (if_neg h7) (if_neg h8))))
                refine wi_z_eq (b := t1) hC 114 d_MO_root_107 (by decide) (fun h6 => ?_) (fun h6 => ?_)
                · skip
                  refine wi_iconst hC 0 (by decide) d_MO_root_114 ?_
                  exact Jt7 false (by exact (Eq.trans eTt7 (if_neg h6)))
                · skip
                  refine wi_iconst hC 1 (by decide) d_MO_root_110 ?_
                  refine wi_goto hC 115 d_MO_root_111 (by decide) ?_
                  exact Jt7 true (by exact (Eq.trans eTt7 (if_pos h6)))
            obtain ⟨t5, e_t5⟩ : ∃ y : Int32 × Int32, lpn ((b_MO_root_90 t1 t4)) (dnf 1) (1, 0) = y := ⟨_, rfl⟩
            rw [e_t5]
            refine wi_lload hC 6 d_MO_root_159 rfl ?_
            refine wi_iconst hC 2 (by decide) d_MO_root_161 ?_
            refine wi_lshl hC d_MO_root_162 ?_
            refine wi_lload hC 5 d_MO_root_163 rfl ?_
            refine wi_bipush hC 62 (by decide) d_MO_root_165 ?_
            refine wi_lushr hC d_MO_root_167 ?_
            refine wi_lor hC d_MO_root_168 ?_
            refine wi_nmJ (fun v6 e_v6 => ?_)
            refine wi_lstore hC [(4, .long v6), (14, .int t5.1), (13, .int t5.2), (12, .int t4.1), (10, .long t4.2.1), (8, .long t4.2.2.1), (6, .long t4.2.2.2.1), (3, .int v2), (2, .int (bI t1)), (1, .int v1), (0, .ref 35)] d_MO_root_169 (by decide) rfl ?_
            refine wi_lload hC 6 d_MO_root_171 rfl ?_
            refine wi_iconst hC 2 (by decide) d_MO_root_173 ?_
            refine wi_lshl hC d_MO_root_174 ?_
            refine wi_iload hC 2 d_MO_root_175 rfl ?_
            refine wi_i2l hC d_MO_root_177 ?_
            refine wi_lor hC d_MO_root_178 ?_
            refine wi_nmJ (fun v7 e_v7 => ?_)
            refine wi_lstore hC [(6, .long v7), (4, .long v6), (14, .int t5.1), (13, .int t5.2), (12, .int t4.1), (10, .long t4.2.1), (8, .long t4.2.2.1), (3, .int v2), (2, .int (bI t1)), (1, .int v1), (0, .ref 35)] d_MO_root_179 (by decide) rfl ?_
            refine wi_lload hC 6 d_MO_root_181 rfl ?_
            refine wi_iconst hC 2 (by decide) d_MO_root_183 ?_
            refine wi_lshl hC d_MO_root_184 ?_
            refine wi_lload hC 5 d_MO_root_185 rfl ?_
            refine wi_bipush hC 62 (by decide) d_MO_root_187 ?_
            refine wi_lushr hC d_MO_root_189 ?_
            refine wi_lor hC d_MO_root_190 ?_
            refine wi_nmJ (fun v8 e_v8 => ?_)
            refine wi_lstore hC [(14, .long v8), (6, .long v7), (4, .long v6), (13, .int t5.2), (12, .int t4.1), (10, .long t4.2.1), (8, .long t4.2.2.1), (3, .int v2), (2, .int (bI t1)), (1, .int v1), (0, .ref 35)] d_MO_root_191 (by decide) rfl ?_
            refine wi_lload hC 5 d_MO_root_193 rfl ?_
            refine wi_iconst hC 2 (by decide) d_MO_root_195 ?_
            refine wi_lshl hC d_MO_root_196 ?_
            refine wi_lconst hC 1 (by decide) d_MO_root_197 ?_
            refine wi_lor hC d_MO_root_198 ?_
            refine wi_nmJ (fun v9 e_v9 => ?_)
            refine wi_lstore hC [(16, .long v9), (14, .long v8), (6, .long v7), (4, .long v6), (13, .int t5.2), (12, .int t4.1), (10, .long t4.2.1), (8, .long t4.2.2.1), (3, .int v2), (2, .int (bI t1)), (1, .int v1), (0, .ref 35)] d_MO_root_199 (by decide) rfl ?_
            refine wi_lload hC 3 d_MO_root_201 rfl ?_
            refine wi_lload hC 1 d_MO_root_203 rfl ?_
            obtain ⟨Tt9, eTt9⟩ : ∃ y : Bool, y = (
                    if v6 = v8 then
                      if f_MO_below v7 v9 = true then
                        false
                      else
                        true
                    else
                      if f_MO_below v6 v8 = true then
                        false
                      else
                        true) := ⟨_, rfl⟩
            have Jt9 : ∀ (t9 : Bool), Tt9 = t9 → WS p l e { frames := 3, cells := 0, slots := 0, locals := 86 } s m args below meth c Q E 19 242 [(16, .long v9), (14, .long v8), (6, .long v7), (4, .long v6), (13, .int t5.2), (12, .int t4.1), (10, .long t4.2.1), (8, .long t4.2.2.1), (3, .int v2), (2, .int (bI t1)), (1, .int v1), (0, .ref 35)] [.int (bI t9)] (σ, t4.2.2.2.2.2, q) := by
              intro t9  e_t9
              rw [eTt9] at e_t9
              refine wi_istore hC [(18, .int (bI t9)), (16, .long v9), (14, .long v8), (6, .long v7), (4, .long v6), (13, .int t5.2), (12, .int t4.1), (10, .long t4.2.1), (8, .long t4.2.2.1), (3, .int v2), (2, .int (bI t1)), (1, .int v1), (0, .ref 35)] d_MO_root_242 (by decide) rfl ?_
              refine wi_iload hC 0 d_MO_root_244 rfl ?_
              obtain ⟨Tt10, eTt10⟩ : ∃ y : Int64 × Int64, y = (
                      if t9 = true then
                        let t11 : Int64 := 
                            if f_MO_below v7 v9 = true then
                              1
                            else
                              0
                        let v10 : Int64 := (v6 - v8) - t11
                        let v11 : Int64 := v7 - v9
                        (v11, v10)
                      else
                        (v7, v6)) := ⟨_, rfl⟩
              have Jt10 : ∀ (t10 : Int64 × Int64), Tt10 = t10 → WS p l e { frames := 3, cells := 0, slots := 0, locals := 86 } s m args below meth c Q E 19 279 [(18, .int (bI t9)), (16, .long v9), (14, .long v8), (6, .long t10.1), (4, .long t10.2), (13, .int t5.2), (12, .int t4.1), (10, .long t4.2.1), (8, .long t4.2.2.1), (3, .int v2), (2, .int (bI t1)), (1, .int v1), (0, .ref 35)] [] (σ, t4.2.2.2.2.2, q) := by
                intro t10  e_t10
                rw [eTt10] at e_t10
                refine wi_lload hC 8 d_MO_root_279 rfl ?_
                refine wi_iconst hC 1 (by decide) d_MO_root_281 ?_
                refine wi_lshl hC d_MO_root_282 ?_
                refine wi_lload hC 7 d_MO_root_283 rfl ?_
                refine wi_bipush hC 63 (by decide) d_MO_root_285 ?_
                refine wi_lushr hC d_MO_root_287 ?_
                refine wi_lor hC d_MO_root_288 ?_
                refine wi_nmJ (fun v12 e_v12 => ?_)
                refine wi_lstore hC [(8, .long v12), (18, .int (bI t9)), (16, .long v9), (14, .long v8), (6, .long t10.1), (4, .long t10.2), (13, .int t5.2), (12, .int t4.1), (10, .long t4.2.1), (3, .int v2), (2, .int (bI t1)), (1, .int v1), (0, .ref 35)] d_MO_root_289 (by decide) rfl ?_
                refine wi_lload hC 8 d_MO_root_291 rfl ?_
                refine wi_iconst hC 1 (by decide) d_MO_root_293 ?_
                refine wi_lshl hC d_MO_root_294 ?_
                refine wi_iload hC 1 d_MO_root_295 rfl ?_
                obtain ⟨Tt12, eTt12⟩ : ∃ y : Int64, y = (
                        if t9 = true then
                          1
                        else
                          0) := ⟨_, rfl⟩
                have Jt12 : ∀ (t12 : Int64), Tt12 = t12 → WS p l e { frames := 3, cells := 0, slots := 0, locals := 86 } s m args below meth c Q E 19 305 [(8, .long v12), (18, .int (bI t9)), (16, .long v9), (14, .long v8), (6, .long t10.1), (4, .long t10.2), (13, .int t5.2), (12, .int t4.1), (10, .long t4.2.1), (3, .int v2), (2, .int (bI t1)), (1, .int v1), (0, .ref 35)] [.long t12, .long (jlshl t4.2.1 1)] (σ, t4.2.2.2.2.2, q) := by
                  intro t12  e_t12
                  rw [eTt12] at e_t12
                  refine wi_lor hC d_MO_root_305 ?_
                  refine wi_nmJ (fun v13 e_v13 => ?_)
                  refine wi_lstore hC [(10, .long v13), (8, .long v12), (18, .int (bI t9)), (16, .long v9), (14, .long v8), (6, .long t10.1), (4, .long t10.2), (13, .int t5.2), (12, .int t4.1), (3, .int v2), (2, .int (bI t1)), (1, .int v1), (0, .ref 35)] d_MO_root_306 (by decide) rfl ?_
                  refine wi_aload_n hC 12 d_MO_root_308 rfl rfl ?_
                  refine wg_MO_row hC wd_730 d_MO_root_309 ?_
                  refine wi_iload hC 8 d_MO_root_312 rfl ?_
                  refine wi_iload hC 2 d_MO_root_314 rfl ?_
                  refine wa_st41 hC t9 rfl (vin_of (lo_n h4) (hi_le hi_t4 (by decide))) d_MO_root_316 ?_
                  refine wi_nmM (fun s2 e_s2 => ?_)
                  obtain ⟨v14, e_v14⟩ : ∃ y : Int32, t4.1 + (-1) = y := ⟨_, rfl⟩
                  refine wi_iinc hC 8 v14 [(12, .int v14), (10, .long v13), (8, .long v12), (18, .int (bI t9)), (16, .long v9), (14, .long v8), (6, .long t10.1), (4, .long t10.2), (13, .int t5.2), (3, .int v2), (2, .int (bI t1)), (1, .int v1), (0, .ref 35)] d_MO_root_317 rfl (by rw [← e_v14]; rfl) (by decide) rfl ?_
                  refine wi_goto hC 79 d_MO_root_320 (by decide) ?_
                  refine wi_lv [0, 1, 2, 6, 7, 9, 10, 11, 12] [(12, .int v14), (10, .long v13), (8, .long v12), (6, .long t10.1), (4, .long t10.2), (3, .int v2), (2, .int (bI t1)), (1, .int v1), (0, .ref 35)] rfl ?_
                  exact hc_t4 (v14, v13, v12, t10.1, t10.2, s2) (by subst e_v14; subst e_s2; subst e_v13; subst e_t12; subst e_v12; subst e_t10; subst e_t9; subst e_v9; subst e_v8; subst e_v7; subst e_v6; subst e_t5; exact (if_neg h4))
                refine wi_z_eq (b := t9) hC 304 d_MO_root_297 (by decide) (fun h14 => ?_) (fun h14 => ?_)
                · skip
                  refine wi_lconst hC 0 (by decide) d_MO_root_304 ?_
                  exact Jt12 0 (by exact (Eq.trans eTt12 (if_neg h14)))
                · skip
                  refine wi_lconst hC 1 (by decide) d_MO_root_300 ?_
                  refine wi_goto hC 305 d_MO_root_301 (by decide) ?_
                  exact Jt12 1 (by exact (Eq.trans eTt12 (if_pos h14)))
              refine wi_z_eq (b := t9) hC 279 d_MO_root_246 (by decide) (fun h12 => ?_) (fun h12 => ?_)
              · skip
                exact Jt10 (v7, v6) (by exact (Eq.trans eTt10 (if_neg h12)))
              · skip
                refine wi_lload hC 4 d_MO_root_249 rfl ?_
                refine wi_lload hC 2 d_MO_root_251 rfl ?_
                refine wi_lsub hC d_MO_root_253 ?_
                refine wi_lload hC 3 d_MO_root_254 rfl ?_
                refine wi_lload hC 1 d_MO_root_256 rfl ?_
                refine k_MO_below hC  wd_692 (by decide) (Nat.le_of_ble_eq_true rfl) d_MO_root_258 ?_
                obtain ⟨Tt11, eTt11⟩ : ∃ y : Int64, y = (
                        if f_MO_below v7 v9 = true then
                          1
                        else
                          0) := ⟨_, rfl⟩
                have Jt11 : ∀ (t11 : Int64), Tt11 = t11 → WS p l e { frames := 3, cells := 0, slots := 0, locals := 86 } s m args below meth c Q E 19 269 [(18, .int (bI t9)), (16, .long v9), (14, .long v8), (6, .long v7), (4, .long v6), (13, .int t5.2), (12, .int t4.1), (10, .long t4.2.1), (8, .long t4.2.2.1), (3, .int v2), (2, .int (bI t1)), (1, .int v1), (0, .ref 35)] [.long t11, .long (v6 - v8)] (σ, t4.2.2.2.2.2, q) := by
                  intro t11  e_t11
                  rw [eTt11] at e_t11
                  refine wi_lsub hC d_MO_root_269 ?_
                  refine wi_nmJ (fun v10 e_v10 => ?_)
                  refine wi_lstore hC [(4, .long v10), (18, .int (bI t9)), (16, .long v9), (14, .long v8), (6, .long v7), (13, .int t5.2), (12, .int t4.1), (10, .long t4.2.1), (8, .long t4.2.2.1), (3, .int v2), (2, .int (bI t1)), (1, .int v1), (0, .ref 35)] d_MO_root_270 (by decide) rfl ?_
                  refine wi_lload hC 4 d_MO_root_272 rfl ?_
                  refine wi_lload hC 2 d_MO_root_274 rfl ?_
                  refine wi_lsub hC d_MO_root_276 ?_
                  refine wi_nmJ (fun v11 e_v11 => ?_)
                  refine wi_lstore hC [(6, .long v11), (4, .long v10), (18, .int (bI t9)), (16, .long v9), (14, .long v8), (13, .int t5.2), (12, .int t4.1), (10, .long t4.2.1), (8, .long t4.2.2.1), (3, .int v2), (2, .int (bI t1)), (1, .int v1), (0, .ref 35)] d_MO_root_277 (by decide) rfl ?_
                  refine wi_lv [2, 3, 4, 0, 1, 5, 6, 7, 8, 9, 10, 11, 12] [(18, .int (bI t9)), (16, .long v9), (14, .long v8), (6, .long v11), (4, .long v10), (13, .int t5.2), (12, .int t4.1), (10, .long t4.2.1), (8, .long t4.2.2.1), (3, .int v2), (2, .int (bI t1)), (1, .int v1), (0, .ref 35)] rfl ?_
                  exact Jt10 (v11, v10) (by subst e_v11; subst e_v10; subst e_t11; exact (Eq.trans eTt10 (if_pos h12)))
                refine wi_z_eq (b := (f_MO_below v7 v9)) hC 268 d_MO_root_261 (by decide) (fun h13 => ?_) (fun h13 => ?_)
                · skip
                  refine wi_lconst hC 0 (by decide) d_MO_root_268 ?_
                  exact Jt11 0 (by exact (Eq.trans eTt11 (if_neg h13)))
                · skip
                  refine wi_lconst hC 1 (by decide) d_MO_root_264 ?_
                  refine wi_goto hC 269 d_MO_root_265 (by decide) ?_
                  exact Jt11 1 (by exact (Eq.trans eTt11 (if_pos h13)))
            refine wi_lcmp_eq hC 227 d_MO_root_205 d_MO_root_206 (by decide) (fun h9 => ?_) (fun h9 => ?_)
            · skip
              refine wi_lload hC 2 d_MO_root_227 rfl ?_
              refine wi_lload hC 0 d_MO_root_229 rfl ?_
              refine k_MO_below hC  wd_692 (by decide) (Nat.le_of_ble_eq_true rfl) d_MO_root_231 ?_
              refine wi_z_ne (b := (f_MO_below v7 v9)) hC 241 d_MO_root_234 (by decide) (fun h10 => ?_) (fun h10 => ?_)
              · skip
                refine wi_iconst hC 0 (by decide) d_MO_root_241 ?_
                exact Jt9 false (by exact (Eq.trans eTt9 (Eq.trans (if_pos h9) (if_pos h10))))
              · skip
                refine wi_iconst hC 1 (by decide) d_MO_root_237 ?_
                refine wi_goto hC 242 d_MO_root_238 (by decide) ?_
                exact Jt9 true (by exact (Eq.trans eTt9 (Eq.trans (if_pos h9) (if_neg h10))))
            · skip
              refine wi_lload hC 3 d_MO_root_209 rfl ?_
              refine wi_lload hC 1 d_MO_root_211 rfl ?_
              refine k_MO_below hC  wd_692 (by decide) (Nat.le_of_ble_eq_true rfl) d_MO_root_213 ?_
              refine wi_z_ne (b := (f_MO_below v6 v8)) hC 223 d_MO_root_216 (by decide) (fun h11 => ?_) (fun h11 => ?_)
              · skip
                refine wi_iconst hC 0 (by decide) d_MO_root_223 ?_
                refine wi_goto hC 242 d_MO_root_224 (by decide) ?_
                exact Jt9 false (by exact (Eq.trans eTt9 (Eq.trans (if_neg h9) (if_pos h11))))
              · skip
                refine wi_iconst hC 1 (by decide) d_MO_root_219 ?_
                refine wi_goto hC 242 d_MO_root_220 (by decide) ?_
                exact Jt9 true (by exact (Eq.trans eTt9 (Eq.trans (if_neg h9) (if_neg h11))))
        obtain ⟨t3, e_t3⟩ : ∃ y : Int32 × Int64 × Int64 × Int64 × Int64 × St, lpn ((b_MO_root_79 t1)) (dnf 103) (103, 0, 0, 0, 0, s1) = y := ⟨_, rfl⟩
        rw [e_t3]
        refine wi_aload_n hC 8 d_MO_root_323 rfl rfl ?_
        refine wi_lload hC 4 d_MO_root_324 rfl ?_
        refine wi_lload hC 3 d_MO_root_326 rfl ?_
        refine wi_lor hC d_MO_root_328 ?_
        refine wi_lconst hC 0 (by decide) d_MO_root_329 ?_
        obtain ⟨Tt13, eTt13⟩ : ∃ y : Bool, y = (
                if t3.2.2.2.2.1 ||| t3.2.2.2.1 = 0 then
                  false
                else
                  true) := ⟨_, rfl⟩
        have Jt13 : ∀ (t13 : Bool), Tt13 = t13 → WS p l e { frames := 3, cells := 0, slots := 0, locals := 86 } s m args below meth c Q E 19 339 [(12, .int t3.1), (10, .long t3.2.1), (8, .long t3.2.2.1), (6, .long t3.2.2.2.1), (4, .long t3.2.2.2.2.1), (3, .int v2), (2, .int (bI t1)), (1, .int v1), (0, .ref 35)] [.int (bI t13), .ref 35] (σ, t3.2.2.2.2.2, q) := by
          intro t13  e_t13
          rw [eTt13] at e_t13
          refine wp_MO_more hC t13 rfl wd_729 d_MO_root_339 ?_
          refine wi_nmM (fun s3 e_s3 => ?_)
          refine wi_aload_n hC 8 d_MO_root_342 rfl rfl ?_
          refine wi_iconst hC 0 (by decide) d_MO_root_343 ?_
          refine k_MO_make hC false rfl wd_772 (by decide) (Nat.le_of_ble_eq_true rfl) d_MO_root_344 ?_
          refine wi_nmM (fun s4 e_s4 => ?_)
          have hf : f_MO_root τ = s4 := by subst e_s4; subst e_s3; subst e_t13; subst e_t3; subst e_s1; subst e_v2; subst e_t2; subst e_t1; subst e_v1; exact (if_neg h1)
          exact wi_vret hC hr hk d_MO_root_347 rfl (congrArg (fun z => (σ, z, q)) hf).symm hQ
        refine wi_lcmp_eq hC 338 d_MO_root_330 d_MO_root_331 (by decide) (fun h15 => ?_) (fun h15 => ?_)
        · skip
          refine wi_iconst hC 0 (by decide) d_MO_root_338 ?_
          exact Jt13 false (by exact (Eq.trans eTt13 (if_pos h15)))
        · skip
          refine wi_iconst hC 1 (by decide) d_MO_root_334 ?_
          refine wi_goto hC 339 d_MO_root_335 (by decide) ?_
          exact Jt13 true (by exact (Eq.trans eTt13 (if_neg h15)))
      refine wi_z_eq (b := t1) hC 49 d_MO_root_40 (by decide) (fun h3 => ?_) (fun h3 => ?_)
      · skip
        refine wi_iload_n hC 1 d_MO_root_49 rfl rfl ?_
        exact Jt2 v1 (by exact (Eq.trans eTt2 (if_neg h3)))
      · skip
        refine wi_iload_n hC 1 d_MO_root_43 rfl rfl ?_
        refine wi_iconst hC 1 (by decide) d_MO_root_44 ?_
        refine wi_isub hC d_MO_root_45 ?_
        refine wi_goto hC 50 d_MO_root_46 (by decide) ?_
        exact Jt2 (v1 - 1) (by exact (Eq.trans eTt2 (if_pos h3)))
    refine wi_if_eq hC 37 d_MO_root_30 (by decide) (fun h2 => ?_) (fun h2 => ?_)
    · skip
      refine wi_iconst hC 0 (by decide) d_MO_root_37 ?_
      exact Jt1 false (by exact (Eq.trans eTt1 (if_pos h2)))
    · skip
      refine wi_iconst hC 1 (by decide) d_MO_root_33 ?_
      refine wi_goto hC 38 d_MO_root_34 (by decide) ?_
      exact Jt1 true (by exact (Eq.trans eTt1 (if_neg h2)))
  · skip
    refine wi_aload_n hC 0 d_MO_root_8 rfl rfl ?_
    refine wi_aload_n hC 0 d_MO_root_9 rfl rfl ?_
    refine wg_MO_minus hC wd_674 d_MO_root_10 ?_
    refine wi_iconst hC 0 (by decide) d_MO_root_13 ?_
    refine wa_ld38 hC (by unfold vp_in; decide) d_MO_root_14 ?_
    refine wi_iconst hC 0 (by decide) d_MO_root_15 ?_
    refine wi_lconst hC 0 (by decide) d_MO_root_16 ?_
    refine k_MO_answer hC (gZ τ 106 (jat 0)) rfl wd_757 (by decide) (Nat.le_of_ble_eq_true rfl) d_MO_root_17 ?_
    refine wi_nmM (fun s5 e_s5 => ?_)
    have hf : f_MO_root τ = s5 := by subst e_s5; exact (if_pos h1)
    exact wi_vret hC hr hk d_MO_root_20 rfl (congrArg (fun z => (σ, z, q)) hf).symm hQ
theorem k_MO_root {p : Program} {l : Launch} {e : Env} {R : Room} {s : State} {m : MethodId} {args : Array Value} {below : List Frame} {meth : Method} {c : Code} {Q : State → Prop} {E : Ev} {nL pc index : Nat} {lv : List (Nat × Value)} {rest : List Value} {cc : ByteArray} {own : String} {σ τ : St} {q : Int64}  (hC : Cx p s m args c cc nL own E)   (hl : Cond.methodLink own index y_MO_root ∈ WL) (hR : 3 + 1 ≤ R.frames ∧ 8 + (19 + 11) + 86 ≤ R.locals) (hs8 : (rest.map fun v => v.category).sum ≤ 8) (d : decode cc pc = .ok (.invokevirtual index, 3)) (k : WS p l e R s m args below meth c Q E nL (pc + 3) lv rest (σ, (f_MO_root τ), q)) : WS p l e R s m args below meth c Q E nL pc lv (.ref 35 :: rest) (σ, τ, q) := by
  exact wi_callV hC (n := 0) (vs := []) (rest := rest) 35 11 (by decide) rfl rfl rfl (c_MO_root l E σ τ q  ) (by decide +kernel) wd_782 wd_662 wd_783 wd_784 ⟨rfl, rfl⟩ rfl rfl hl hR hs8 d k
set_option maxRecDepth 100000 in
set_option maxHeartbeats 400000 in
theorem c_MO_work (l : Launch) (E : Ev) (σ τ : St) (q : Int64) (a1 : Int32)  : MF l y_MO_work prog_14_method_35_code 5 none { frames := 4, cells := 0, slots := 0, locals := 124 } E [.ref 35, .int a1] (σ, τ, q) none (σ, (f_MO_work τ a1), q) := by
  refine MF_intro (lv0 := [(0, .ref 35), (1, .int a1)]) (by decide) wd_792 (Nat.le_of_ble_eq_true rfl) rfl ?_
  intro p e s m args below meth c Q hC hr hk hQ
  replace hC : Cx p s m args c prog_14_method_35_code 5 "PartnerStackModel$RealOperationsModel" E := hC
  refine wi_iload_n hC 1 d_MO_work_0 rfl rfl ?_
  refine wi_bipush hC 6 (by decide) d_MO_work_1 ?_
  obtain ⟨Tt1, eTt1⟩ : ∃ y : Bool, y = (
          if 6 ≤ a1 then
            false
          else
            true) := ⟨_, rfl⟩
  have Jt1 : ∀ (t1 : Bool), Tt1 = t1 → WS p l e { frames := 4, cells := 0, slots := 0, locals := 124 } s m args below meth c Q E 5 11 [(0, .ref 35), (1, .int a1)] [.int (bI t1)] (σ, τ, q) := by
    intro t1  e_t1
    rw [eTt1] at e_t1
    refine wi_istore_n hC [(2, .int (bI t1)), (0, .ref 35), (1, .int a1)] d_MO_work_11 rfl (by decide) rfl ?_
    refine wi_aload_n hC 1 d_MO_work_12 rfl rfl ?_
    refine wi_iload_n hC 2 d_MO_work_13 rfl rfl ?_
    refine k_MO_isWrong hC  wd_785 (by decide) (Nat.le_of_ble_eq_true rfl) d_MO_work_14 ?_
    refine wi_z_eq (b := (f_MO_isWrong τ a1)) hC 40 d_MO_work_17 (by decide) (fun h2 => ?_) (fun h2 => ?_)
    · skip
      refine wi_aload_n hC 1 d_MO_work_40 rfl rfl ?_
      refine wi_iconst hC 0 (by decide) d_MO_work_41 ?_
      refine k_MO_isDenormal hC (by unfold vp_in; decide) wd_786 (by decide) (Nat.le_of_ble_eq_true rfl) d_MO_work_42 ?_
      have B2 : ∀ (x1 : St), f_MO_work τ a1 = f_MO_work_b69 a1 t1 x1 → WS p l e { frames := 4, cells := 0, slots := 0, locals := 124 } s m args below meth c Q E 5 69 [(2, .int (bI t1)), (0, .ref 35), (1, .int a1)] [] (σ, x1, q) := by
        intro x1 hB2
        refine wi_aload_n hC 1 d_MO_work_69 rfl rfl ?_
        refine wg_MO_minus hC wd_674 d_MO_work_70 ?_
        refine wi_iconst hC 0 (by decide) d_MO_work_73 ?_
        refine wa_ld38 hC (by unfold vp_in; decide) d_MO_work_74 ?_
        refine wi_aload_n hC 1 d_MO_work_75 rfl rfl ?_
        refine wg_MO_minus hC wd_674 d_MO_work_76 ?_
        refine wi_iconst hC 1 (by decide) d_MO_work_79 ?_
        refine wa_ld38 hC (by unfold vp_in; decide) d_MO_work_80 ?_
        obtain ⟨Tt2, eTt2⟩ : ∃ y : Bool, y = (
                if gZ x1 106 (jat 0) = gZ x1 106 (jat 1) then
                  false
                else
                  true) := ⟨_, rfl⟩
        have Jt2 : ∀ (t2 : Bool), Tt2 = t2 → WS p l e { frames := 4, cells := 0, slots := 0, locals := 124 } s m args below meth c Q E 5 89 [(2, .int (bI t1)), (0, .ref 35), (1, .int a1)] [.int (bI t2)] (σ, x1, q) := by
          intro t2  e_t2
          rw [eTt2] at e_t2
          refine wi_istore_n hC [(3, .int (bI t2)), (2, .int (bI t1)), (0, .ref 35), (1, .int a1)] d_MO_work_89 rfl (by decide) rfl ?_
          refine wi_iload_n hC 3 d_MO_work_90 rfl rfl ?_
          refine wi_iconst hC 4 (by decide) d_MO_work_91 ?_
          obtain ⟨Tt3, eTt3⟩ : ∃ y : Bool, y = (
                  if a1 = 4 then
                    true
                  else
                    if a1 = 5 then
                      true
                    else
                      false) := ⟨_, rfl⟩
          have Jt3 : ∀ (t3 : Bool), Tt3 = t3 → WS p l e { frames := 4, cells := 0, slots := 0, locals := 124 } s m args below meth c Q E 5 105 [(3, .int (bI t2)), (2, .int (bI t1)), (0, .ref 35), (1, .int a1)] [.int (bI t3)] (σ, x1, q) := by
            intro t3  e_t3
            rw [eTt3] at e_t3
            refine wi_istore hC [(4, .int (bI t3)), (3, .int (bI t2)), (2, .int (bI t1)), (0, .ref 35), (1, .int a1)] d_MO_work_105 (by decide) rfl ?_
            refine wi_iload hC 0 d_MO_work_107 rfl ?_
            obtain ⟨Tt4, eTt4⟩ : ∃ y : St, y = (
                    if t3 = true then
                      if f_MO_isNothing x1 1 = true then
                        if f_MO_isEndless x1 0 = true then
                          f_MO_work_b150 a1 t1 x1 t2 t3
                        else
                          let r2 : Bool × St := f_MO_tell x1 4
                          if r2.1 = true then
                            let s1 : St := f_MO_answer r2.2 t2 32767 (-9223372036854775808)
                            s1
                          else
                            r2.2
                      else
                        f_MO_work_b150 a1 t1 x1 t2 t3
                    else
                      f_MO_work_b150 a1 t1 x1 t2 t3) := ⟨_, rfl⟩
            have Jt4 : ∀ (t4 : St), Tt4 = t4 → WS p l e { frames := 4, cells := 0, slots := 0, locals := 124 } s m args below meth c Q E 5 310 [(4, .int (bI t3)), (3, .int (bI t2)), (2, .int (bI t1)), (0, .ref 35), (1, .int a1)] [] (σ, t4, q) := by
              intro t4  e_t4
              rw [eTt4] at e_t4
              have hf : f_MO_work τ a1 = t4 := by subst e_t4; subst e_t3; subst e_t2; exact hB2
              exact wi_vret hC hr hk d_MO_work_310 rfl (congrArg (fun z => (σ, z, q)) hf).symm hQ
            have B3 : Tt4 = f_MO_work_b150 a1 t1 x1 t2 t3 → WS p l e { frames := 4, cells := 0, slots := 0, locals := 124 } s m args below meth c Q E 5 150 [(4, .int (bI t3)), (3, .int (bI t2)), (2, .int (bI t1)), (0, .ref 35), (1, .int a1)] [] (σ, x1, q) := by
              intro hB3
              refine wi_aload_n hC 3 d_MO_work_150 rfl rfl ?_
              refine wi_iconst hC 0 (by decide) d_MO_work_151 ?_
              refine k_MO_isEndless hC (by unfold vp_in; decide) wd_708 (by decide) (Nat.le_of_ble_eq_true rfl) d_MO_work_152 ?_
              have B5 : Tt4 = f_MO_work_b170 a1 x1 t2 t3 → WS p l e { frames := 4, cells := 0, slots := 0, locals := 124 } s m args below meth c Q E 5 170 [(4, .int (bI t3)), (3, .int (bI t2)), (2, .int (bI t1)), (0, .ref 35), (1, .int a1)] [] (σ, x1, q) := by
                intro hB5
                refine wi_iload_n hC 4 d_MO_work_170 rfl rfl ?_
                refine wi_bipush hC 6 (by decide) d_MO_work_171 ?_
                refine wi_icmp_ne hC 190 d_MO_work_173 (by decide) (fun h20 => ?_) (fun h20 => ?_)
                · skip
                  refine wi_iload_n hC 4 d_MO_work_190 rfl rfl ?_
                  refine wi_iconst hC 3 (by decide) d_MO_work_191 ?_
                  refine wi_icmp_ge hC 231 d_MO_work_192 (by decide) (fun h21 => ?_) (fun h21 => ?_)
                  · skip
                    refine wi_iload hC 0 d_MO_work_231 rfl ?_
                    have B6 : Tt4 = f_MO_work_b254 x1 t2 → WS p l e { frames := 4, cells := 0, slots := 0, locals := 124 } s m args below meth c Q E 5 254 [(4, .int (bI t3)), (3, .int (bI t2)), (2, .int (bI t1)), (0, .ref 35), (1, .int a1)] [] (σ, x1, q) := by
                      intro hB6
                      refine wi_aload_n hC 3 d_MO_work_254 rfl rfl ?_
                      refine wi_iload_n hC 1 d_MO_work_255 rfl rfl ?_
                      refine wi_sipush hC 32767 (by decide) d_MO_work_256 ?_
                      refine wi_ldc2 hC wd_756 d_MO_work_259 ?_
                      refine k_MO_answer hC t2 rfl wd_757 (by decide) (Nat.le_of_ble_eq_true rfl) d_MO_work_262 ?_
                      refine wi_nmM (fun s7 e_s7 => ?_)
                      refine wi_goto hC 310 d_MO_work_265 (by decide) ?_
                      exact Jt4 s7 (by subst e_s7; exact hB6)
                    refine wi_z_eq (b := t3) hC 254 d_MO_work_233 (by decide) (fun h22 => ?_) (fun h22 => ?_)
                    · skip
                      exact B6   (by exact (Eq.trans hB5 (Eq.trans (if_neg h20) (Eq.trans (if_pos h21) (if_neg h22)))))
                    · skip
                      refine wi_aload_n hC 3 d_MO_work_236 rfl rfl ?_
                      refine wi_iconst hC 1 (by decide) d_MO_work_237 ?_
                      refine k_MO_isEndless hC (by unfold vp_in; decide) wd_708 (by decide) (Nat.le_of_ble_eq_true rfl) d_MO_work_238 ?_
                      refine wi_z_eq (b := (f_MO_isEndless x1 1)) hC 254 d_MO_work_241 (by decide) (fun h23 => ?_) (fun h23 => ?_)
                      · skip
                        exact B6   (by exact (Eq.trans hB5 (Eq.trans (if_neg h20) (Eq.trans (if_pos h21) (Eq.trans (if_pos h22) (if_neg h23))))))
                      · skip
                        refine wi_aload_n hC 3 d_MO_work_244 rfl rfl ?_
                        refine wi_iload_n hC 1 d_MO_work_245 rfl rfl ?_
                        refine wi_iconst hC 0 (by decide) d_MO_work_246 ?_
                        refine wi_lconst hC 0 (by decide) d_MO_work_247 ?_
                        refine k_MO_answer hC t2 rfl wd_757 (by decide) (Nat.le_of_ble_eq_true rfl) d_MO_work_248 ?_
                        refine wi_nmM (fun s6 e_s6 => ?_)
                        refine wi_goto hC 310 d_MO_work_251 (by decide) ?_
                        exact Jt4 s6 (by subst e_s6; exact (Eq.trans hB5 (Eq.trans (if_neg h20) (Eq.trans (if_pos h21) (Eq.trans (if_pos h22) (if_pos h23))))))
                  · skip
                    refine wi_aload_n hC 3 d_MO_work_195 rfl rfl ?_
                    refine wi_aload_n hC 3 d_MO_work_196 rfl rfl ?_
                    refine wi_iconst hC 0 (by decide) d_MO_work_197 ?_
                    refine k_MO_isEndless hC (by unfold vp_in; decide) wd_708 (by decide) (Nat.le_of_ble_eq_true rfl) d_MO_work_198 ?_
                    obtain ⟨Tt5, eTt5⟩ : ∃ y : Bool, y = (
                            if f_MO_isEndless x1 0 = true then
                              gZ x1 106 (jat 0)
                            else
                              gZ x1 106 (jat 1)) := ⟨_, rfl⟩
                    have Jt5 : ∀ (t5 : Bool), Tt5 = t5 → WS p l e { frames := 4, cells := 0, slots := 0, locals := 124 } s m args below meth c Q E 5 219 [(4, .int (bI t3)), (3, .int (bI t2)), (2, .int (bI t1)), (0, .ref 35), (1, .int a1)] [.int (bI t5), .ref 35] (σ, x1, q) := by
                      intro t5  e_t5
                      rw [eTt5] at e_t5
                      refine wi_sipush hC 32767 (by decide) d_MO_work_219 ?_
                      refine wi_ldc2 hC wd_756 d_MO_work_222 ?_
                      refine k_MO_answer hC t5 rfl wd_757 (by decide) (Nat.le_of_ble_eq_true rfl) d_MO_work_225 ?_
                      refine wi_nmM (fun s8 e_s8 => ?_)
                      refine wi_goto hC 310 d_MO_work_228 (by decide) ?_
                      exact Jt4 s8 (by subst e_s8; subst e_t5; exact (Eq.trans hB5 (Eq.trans (if_neg h20) (if_neg h21))))
                    refine wi_z_eq (b := (f_MO_isEndless x1 0)) hC 213 d_MO_work_201 (by decide) (fun h24 => ?_) (fun h24 => ?_)
                    · skip
                      refine wi_aload_n hC 3 d_MO_work_213 rfl rfl ?_
                      refine wg_MO_minus hC wd_674 d_MO_work_214 ?_
                      refine wi_iconst hC 1 (by decide) d_MO_work_217 ?_
                      refine wa_ld38 hC (by unfold vp_in; decide) d_MO_work_218 ?_
                      exact Jt5 (gZ x1 106 (jat 1)) (by exact (Eq.trans eTt5 (if_neg h24)))
                    · skip
                      refine wi_aload_n hC 3 d_MO_work_204 rfl rfl ?_
                      refine wg_MO_minus hC wd_674 d_MO_work_205 ?_
                      refine wi_iconst hC 0 (by decide) d_MO_work_208 ?_
                      refine wa_ld38 hC (by unfold vp_in; decide) d_MO_work_209 ?_
                      refine wi_goto hC 219 d_MO_work_210 (by decide) ?_
                      exact Jt5 (gZ x1 106 (jat 0)) (by exact (Eq.trans eTt5 (if_pos h24)))
                · skip
                  refine wi_aload_n hC 3 d_MO_work_176 rfl rfl ?_
                  refine wi_iconst hC 0 (by decide) d_MO_work_177 ?_
                  refine wi_sipush hC 32767 (by decide) d_MO_work_178 ?_
                  refine wi_ldc2 hC wd_756 d_MO_work_181 ?_
                  refine k_MO_answer hC false rfl wd_757 (by decide) (Nat.le_of_ble_eq_true rfl) d_MO_work_184 ?_
                  refine wi_nmM (fun s9 e_s9 => ?_)
                  refine wi_goto hC 310 d_MO_work_187 (by decide) ?_
                  exact Jt4 s9 (by subst e_s9; exact (Eq.trans hB5 (if_pos h20)))
              refine wi_z_ne (b := (f_MO_isEndless x1 0)) hC 170 d_MO_work_155 (by decide) (fun h14 => ?_) (fun h14 => ?_)
              · skip
                exact B5   (by exact (Eq.trans hB3 (if_pos h14)))
              · skip
                refine wi_iload_n hC 2 d_MO_work_158 rfl rfl ?_
                have B4 : Tt4 = f_MO_work_b268 a1 x1 t2 t3 → WS p l e { frames := 4, cells := 0, slots := 0, locals := 124 } s m args below meth c Q E 5 268 [(4, .int (bI t3)), (3, .int (bI t2)), (2, .int (bI t1)), (0, .ref 35), (1, .int a1)] [] (σ, x1, q) := by
                  intro hB4
                  refine wi_iload_n hC 4 d_MO_work_268 rfl rfl ?_
                  refine wi_iconst hC 3 (by decide) d_MO_work_269 ?_
                  refine wi_icmp_ge hC 280 d_MO_work_270 (by decide) (fun h17 => ?_) (fun h17 => ?_)
                  · skip
                    refine wi_iload_n hC 4 d_MO_work_280 rfl rfl ?_
                    refine wi_iconst hC 3 (by decide) d_MO_work_281 ?_
                    refine wi_icmp_ne hC 293 d_MO_work_282 (by decide) (fun h18 => ?_) (fun h18 => ?_)
                    · skip
                      refine wi_iload hC 0 d_MO_work_293 rfl ?_
                      refine wi_z_eq (b := t3) hC 306 d_MO_work_295 (by decide) (fun h19 => ?_) (fun h19 => ?_)
                      · skip
                        refine wi_aload_n hC 3 d_MO_work_306 rfl rfl ?_
                        refine k_MO_root hC  wd_787 (by decide) (Nat.le_of_ble_eq_true rfl) d_MO_work_307 ?_
                        refine wi_nmM (fun s2 e_s2 => ?_)
                        exact Jt4 s2 (by subst e_s2; exact (Eq.trans hB4 (Eq.trans (if_pos h17) (Eq.trans (if_neg h18) (if_neg h19)))))
                      · skip
                        refine wi_aload_n hC 3 d_MO_work_298 rfl rfl ?_
                        refine wi_iload_n hC 1 d_MO_work_299 rfl rfl ?_
                        refine k_MO_quotient hC t2 rfl wd_788 (by decide) (Nat.le_of_ble_eq_true rfl) d_MO_work_300 ?_
                        refine wi_nmM (fun s3 e_s3 => ?_)
                        refine wi_goto hC 310 d_MO_work_303 (by decide) ?_
                        exact Jt4 s3 (by subst e_s3; exact (Eq.trans hB4 (Eq.trans (if_pos h17) (Eq.trans (if_neg h18) (if_pos h19)))))
                    · skip
                      refine wi_aload_n hC 3 d_MO_work_285 rfl rfl ?_
                      refine wi_iload_n hC 1 d_MO_work_286 rfl rfl ?_
                      refine k_MO_product hC t2 rfl wd_789 (by decide) (Nat.le_of_ble_eq_true rfl) d_MO_work_287 ?_
                      refine wi_nmM (fun s4 e_s4 => ?_)
                      refine wi_goto hC 310 d_MO_work_290 (by decide) ?_
                      exact Jt4 s4 (by subst e_s4; exact (Eq.trans hB4 (Eq.trans (if_pos h17) (if_pos h18))))
                  · skip
                    refine wi_aload_n hC 3 d_MO_work_273 rfl rfl ?_
                    refine k_MO_sum hC  wd_790 (by decide) (Nat.le_of_ble_eq_true rfl) d_MO_work_274 ?_
                    refine wi_nmM (fun s5 e_s5 => ?_)
                    refine wi_goto hC 310 d_MO_work_277 (by decide) ?_
                    exact Jt4 s5 (by subst e_s5; exact (Eq.trans hB4 (if_neg h17)))
                refine wi_z_eq (b := t1) hC 268 d_MO_work_159 (by decide) (fun h15 => ?_) (fun h15 => ?_)
                · skip
                  exact B4   (by exact (Eq.trans hB3 (Eq.trans (if_neg h14) (if_neg h15))))
                · skip
                  refine wi_aload_n hC 3 d_MO_work_162 rfl rfl ?_
                  refine wi_iconst hC 1 (by decide) d_MO_work_163 ?_
                  refine k_MO_isEndless hC (by unfold vp_in; decide) wd_708 (by decide) (Nat.le_of_ble_eq_true rfl) d_MO_work_164 ?_
                  refine wi_z_eq (b := (f_MO_isEndless x1 1)) hC 268 d_MO_work_167 (by decide) (fun h16 => ?_) (fun h16 => ?_)
                  · skip
                    exact B4   (by exact (Eq.trans hB3 (Eq.trans (if_neg h14) (Eq.trans (if_pos h15) (if_neg h16)))))
                  · skip
                    exact B5   (by exact (Eq.trans hB3 (Eq.trans (if_neg h14) (Eq.trans (if_pos h15) (if_pos h16)))))
            refine wi_z_eq (b := t3) hC 150 d_MO_work_109 (by decide) (fun h10 => ?_) (fun h10 => ?_)
            · skip
              exact B3   (by exact (Eq.trans eTt4 (if_neg h10)))
            · skip
              refine wi_aload_n hC 3 d_MO_work_112 rfl rfl ?_
              refine wi_iconst hC 1 (by decide) d_MO_work_113 ?_
              refine k_MO_isNothing hC (by unfold vp_in; decide) wd_709 (by decide) (Nat.le_of_ble_eq_true rfl) d_MO_work_114 ?_
              refine wi_z_eq (b := (f_MO_isNothing x1 1)) hC 150 d_MO_work_117 (by decide) (fun h11 => ?_) (fun h11 => ?_)
              · skip
                exact B3   (by exact (Eq.trans eTt4 (Eq.trans (if_pos h10) (if_neg h11))))
              · skip
                refine wi_aload_n hC 3 d_MO_work_120 rfl rfl ?_
                refine wi_iconst hC 0 (by decide) d_MO_work_121 ?_
                refine k_MO_isEndless hC (by unfold vp_in; decide) wd_708 (by decide) (Nat.le_of_ble_eq_true rfl) d_MO_work_122 ?_
                refine wi_z_ne (b := (f_MO_isEndless x1 0)) hC 150 d_MO_work_125 (by decide) (fun h12 => ?_) (fun h12 => ?_)
                · skip
                  exact B3   (by exact (Eq.trans eTt4 (Eq.trans (if_pos h10) (Eq.trans (if_pos h11) (if_pos h12)))))
                · skip
                  refine wi_aload_n hC 3 d_MO_work_128 rfl rfl ?_
                  refine wi_iconst hC 4 (by decide) d_MO_work_129 ?_
                  refine k_MO_tell hC  wd_693 (by decide) (Nat.le_of_ble_eq_true rfl) d_MO_work_130 ?_
                  obtain ⟨r2, e_r2⟩ : ∃ y : Bool × St, f_MO_tell x1 4 = y := ⟨_, rfl⟩
                  rw [e_r2]
                  refine wi_z_eq (b := r2.1) hC 310 d_MO_work_133 (by decide) (fun h13 => ?_) (fun h13 => ?_)
                  · skip
                    exact Jt4 r2.2 (by subst e_r2; exact (Eq.trans eTt4 (Eq.trans (if_pos h10) (Eq.trans (if_pos h11) (Eq.trans (if_neg h12) (if_neg h13))))))
                  · skip
                    refine wi_aload_n hC 3 d_MO_work_136 rfl rfl ?_
                    refine wi_iload_n hC 1 d_MO_work_137 rfl rfl ?_
                    refine wi_sipush hC 32767 (by decide) d_MO_work_138 ?_
                    refine wi_ldc2 hC wd_756 d_MO_work_141 ?_
                    refine k_MO_answer hC t2 rfl wd_757 (by decide) (Nat.le_of_ble_eq_true rfl) d_MO_work_144 ?_
                    refine wi_nmM (fun s1 e_s1 => ?_)
                    refine wi_goto hC 310 d_MO_work_147 (by decide) ?_
                    exact Jt4 s1 (by subst e_s1; subst e_r2; exact (Eq.trans eTt4 (Eq.trans (if_pos h10) (Eq.trans (if_pos h11) (Eq.trans (if_neg h12) (if_pos h13))))))
          refine wi_icmp_eq hC 100 d_MO_work_92 (by decide) (fun h8 => ?_) (fun h8 => ?_)
          · skip
            refine wi_iconst hC 1 (by decide) d_MO_work_100 ?_
            refine wi_goto hC 105 d_MO_work_101 (by decide) ?_
            exact Jt3 true (by exact (Eq.trans eTt3 (if_pos h8)))
          · skip
            refine wi_iload_n hC 3 d_MO_work_95 rfl rfl ?_
            refine wi_iconst hC 5 (by decide) d_MO_work_96 ?_
            refine wi_icmp_ne hC 104 d_MO_work_97 (by decide) (fun h9 => ?_) (fun h9 => ?_)
            · skip
              refine wi_iconst hC 0 (by decide) d_MO_work_104 ?_
              exact Jt3 false (by exact (Eq.trans eTt3 (Eq.trans (if_neg h8) (if_neg h9))))
            · skip
              refine wi_iconst hC 1 (by decide) d_MO_work_100 ?_
              refine wi_goto hC 105 d_MO_work_101 (by decide) ?_
              exact Jt3 true (by exact (Eq.trans eTt3 (Eq.trans (if_neg h8) (if_pos h9))))
        refine wi_zc_eq (a := (gZ x1 106 (jat 0))) (b := (gZ x1 106 (jat 1))) hC 88 d_MO_work_81 (by decide) (fun h7 => ?_) (fun h7 => ?_)
        · skip
          refine wi_iconst hC 0 (by decide) d_MO_work_88 ?_
          exact Jt2 false (by exact (Eq.trans eTt2 (if_pos h7)))
        · skip
          refine wi_iconst hC 1 (by decide) d_MO_work_84 ?_
          refine wi_goto hC 89 d_MO_work_85 (by decide) ?_
          exact Jt2 true (by exact (Eq.trans eTt2 (if_neg h7)))
      have B1 : f_MO_work τ a1 = f_MO_work_b60 τ a1 t1 → WS p l e { frames := 4, cells := 0, slots := 0, locals := 124 } s m args below meth c Q E 5 60 [(2, .int (bI t1)), (0, .ref 35), (1, .int a1)] [] (σ, τ, q) := by
        intro hB1
        refine wi_aload_n hC 1 d_MO_work_60 rfl rfl ?_
        refine wi_iconst hC 2 (by decide) d_MO_work_61 ?_
        refine k_MO_tell hC  wd_693 (by decide) (Nat.le_of_ble_eq_true rfl) d_MO_work_62 ?_
        obtain ⟨r1, e_r1⟩ : ∃ y : Bool × St, f_MO_tell τ 2 = y := ⟨_, rfl⟩
        rw [e_r1]
        refine wi_z_ne (b := r1.1) hC 69 d_MO_work_65 (by decide) (fun h6 => ?_) (fun h6 => ?_)
        · skip
          exact B2 r1.2  (by subst e_r1; exact (Eq.trans hB1 (if_pos h6)))
        · skip
          have hf : f_MO_work τ a1 = r1.2 := by subst e_r1; exact (Eq.trans hB1 (if_neg h6))
          exact wi_vret hC hr hk d_MO_work_68 rfl (congrArg (fun z => (σ, z, q)) hf).symm hQ
      refine wi_z_ne (b := (f_MO_isDenormal τ 0)) hC 60 d_MO_work_45 (by decide) (fun h3 => ?_) (fun h3 => ?_)
      · skip
        exact B1   (by subst e_t1; exact (Eq.trans (if_neg h2) (if_pos h3)))
      · skip
        refine wi_iload_n hC 0 d_MO_work_48 rfl rfl ?_
        refine wi_z_eq (b := t1) hC 69 d_MO_work_49 (by decide) (fun h4 => ?_) (fun h4 => ?_)
        · skip
          exact B2 τ  (by subst e_t1; exact (Eq.trans (if_neg h2) (Eq.trans (if_neg h3) (if_neg h4))))
        · skip
          refine wi_aload_n hC 1 d_MO_work_52 rfl rfl ?_
          refine wi_iconst hC 1 (by decide) d_MO_work_53 ?_
          refine k_MO_isDenormal hC (by unfold vp_in; decide) wd_786 (by decide) (Nat.le_of_ble_eq_true rfl) d_MO_work_54 ?_
          refine wi_z_eq (b := (f_MO_isDenormal τ 1)) hC 69 d_MO_work_57 (by decide) (fun h5 => ?_) (fun h5 => ?_)
          · skip
            exact B2 τ  (by subst e_t1; exact (Eq.trans (if_neg h2) (Eq.trans (if_neg h3) (Eq.trans (if_pos h4) (if_neg h5)))))
          · skip
            exact B1   (by subst e_t1; exact (Eq.trans (if_neg h2) (Eq.trans (if_neg h3) (Eq.trans (if_pos h4) (if_pos h5)))))
    · skip
      refine wi_aload_n hC 1 d_MO_work_20 rfl rfl ?_
      refine wi_iconst hC 1 (by decide) d_MO_work_21 ?_
      refine k_MO_tell hC  wd_693 (by decide) (Nat.le_of_ble_eq_true rfl) d_MO_work_22 ?_
      obtain ⟨r3, e_r3⟩ : ∃ y : Bool × St, f_MO_tell τ 1 = y := ⟨_, rfl⟩
      rw [e_r3]
      obtain ⟨Tt6, eTt6⟩ : ∃ y : St, y = (
              if r3.1 = true then
                let s10 : St := f_MO_answer r3.2 true 32767 (-4611686018427387904)
                s10
              else
                r3.2) := ⟨_, rfl⟩
      have Jt6 : ∀ (t6 : St), Tt6 = t6 → WS p l e { frames := 4, cells := 0, slots := 0, locals := 124 } s m args below meth c Q E 5 39 [(2, .int (bI t1)), (0, .ref 35), (1, .int a1)] [] (σ, t6, q) := by
        intro t6  e_t6
        rw [eTt6] at e_t6
        have hf : f_MO_work τ a1 = t6 := by subst e_t6; subst e_r3; subst e_t1; exact (if_pos h2)
        exact wi_vret hC hr hk d_MO_work_39 rfl (congrArg (fun z => (σ, z, q)) hf).symm hQ
      refine wi_z_eq (b := r3.1) hC 39 d_MO_work_25 (by decide) (fun h25 => ?_) (fun h25 => ?_)
      · skip
        exact Jt6 r3.2 (by exact (Eq.trans eTt6 (if_neg h25)))
      · skip
        refine wi_aload_n hC 1 d_MO_work_28 rfl rfl ?_
        refine wi_iconst hC 1 (by decide) d_MO_work_29 ?_
        refine wi_sipush hC 32767 (by decide) d_MO_work_30 ?_
        refine wi_ldc2 hC wd_791 d_MO_work_33 ?_
        refine k_MO_answer hC true rfl wd_757 (by decide) (Nat.le_of_ble_eq_true rfl) d_MO_work_36 ?_
        refine wi_nmM (fun s10 e_s10 => ?_)
        exact Jt6 s10 (by subst e_s10; exact (Eq.trans eTt6 (if_pos h25)))
  refine wi_icmp_ge hC 10 d_MO_work_3 (by decide) (fun h1 => ?_) (fun h1 => ?_)
  · skip
    refine wi_iconst hC 0 (by decide) d_MO_work_10 ?_
    exact Jt1 false (by exact (Eq.trans eTt1 (if_pos h1)))
  · skip
    refine wi_iconst hC 1 (by decide) d_MO_work_6 ?_
    refine wi_goto hC 11 d_MO_work_7 (by decide) ?_
    exact Jt1 true (by exact (Eq.trans eTt1 (if_neg h1)))
theorem k_MO_work {p : Program} {l : Launch} {e : Env} {R : Room} {s : State} {m : MethodId} {args : Array Value} {below : List Frame} {meth : Method} {c : Code} {Q : State → Prop} {E : Ev} {nL pc index : Nat} {lv : List (Nat × Value)} {rest : List Value} {cc : ByteArray} {own : String} {σ τ : St} {q : Int64} {a1 : Int32} (hC : Cx p s m args c cc nL own E)   (hl : Cond.methodLink own index y_MO_work ∈ WL) (hR : 4 + 1 ≤ R.frames ∧ 8 + (5 + 11) + 124 ≤ R.locals) (hs8 : (rest.map fun v => v.category).sum ≤ 8) (d : decode cc pc = .ok (.invokevirtual index, 3)) (k : WS p l e R s m args below meth c Q E nL (pc + 3) lv rest (σ, (f_MO_work τ a1), q)) : WS p l e R s m args below meth c Q E nL pc lv (.int a1 :: .ref 35 :: rest) (σ, τ, q) := by
  exact wi_callV hC (n := 1) (vs := [.int a1]) (rest := rest) 35 11 (by decide) rfl rfl rfl (c_MO_work l E σ τ q a1 ) (by decide +kernel) wd_792 wd_662 wd_793 wd_794 ⟨rfl, rfl⟩ rfl rfl hl hR hs8 d k
set_option maxRecDepth 100000 in
set_option maxHeartbeats 400000 in
theorem c_MO_operate (l : Launch) (E : Ev) (σ τ : St) (q : Int64) (a1 : Int32) (a2 : Int32) (a3 : Int32) (a4 : Int32) (hp : vp_in a2 2) (hq : vp_in a3 2) (hs : a4 = 2) : MF l y_MO_operate prog_14_method_36_code 7 (some .int) { frames := 5, cells := 0, slots := 0, locals := 148 } E [.ref 35, .int a1, .int a2, .int a3, .int a4] (σ, τ, q) (some (.int ((f_MO_operate τ a1 a2 a3 a4).1))) (σ, (f_MO_operate τ a1 a2 a3 a4).2, q) := by
  refine MF_intro (lv0 := [(0, .ref 35), (1, .int a1), (2, .int a2), (3, .int a3), (4, .int a4)]) (by decide) wd_799 (Nat.le_of_ble_eq_true rfl) rfl ?_
  intro p e s m args below meth c Q hC hr hk hQ
  replace hC : Cx p s m args c prog_14_method_36_code 7 "PartnerStackModel$RealOperationsModel" E := hC
  refine wi_aload_n hC 0 d_MO_operate_0 rfl rfl ?_
  refine wi_iload_n hC 2 d_MO_operate_1 rfl rfl ?_
  refine k_MO_none hC  wd_667 (by decide) (Nat.le_of_ble_eq_true rfl) d_MO_operate_2 ?_
  obtain ⟨Tt1, eTt1⟩ : ∃ y : Int32, y = (
          if f_MO_none a2 = true then
            1
          else
            if f_MO_none a3 = true then
              1
            else
              if f_MO_none a4 = true then
                1
              else
                if a1 < 0 then
                  2
                else
                  if a1 ≤ 6 then
                    0
                  else
                    2) := ⟨_, rfl⟩
  have Jt1 : ∀ (t1 : Int32), Tt1 = t1 → WS p l e { frames := 5, cells := 0, slots := 0, locals := 148 } s m args below meth c Q E 7 42 [(0, .ref 35), (1, .int a1), (2, .int a2), (3, .int a3), (4, .int a4)] [.int t1, .ref 35] (σ, τ, q) := by
    intro t1  e_t1
    rw [eTt1] at e_t1
    refine wp_MO_code hC wd_659 d_MO_operate_42 ?_
    refine wi_nmM (fun s1 e_s1 => ?_)
    refine wi_aload_n hC 0 d_MO_operate_45 rfl rfl ?_
    refine wg_MO_code hC wd_659 d_MO_operate_46 ?_
    refine wi_if_le hC 54 d_MO_operate_49 (by decide) (fun h6 => ?_) (fun h6 => ?_)
    · skip
      refine wi_iload_n hC 1 d_MO_operate_54 rfl rfl ?_
      refine wi_iconst hC 2 (by decide) d_MO_operate_55 ?_
      obtain ⟨Tt2, eTt2⟩ : ∃ y : Bool, y = (
              if a1 = 2 then
                true
              else
                if a1 = 5 then
                  true
                else
                  false) := ⟨_, rfl⟩
      have Jt2 : ∀ (t2 : Bool), Tt2 = t2 → WS p l e { frames := 5, cells := 0, slots := 0, locals := 148 } s m args below meth c Q E 7 69 [(0, .ref 35), (1, .int a1), (2, .int a2), (3, .int a3), (4, .int a4)] [.int (bI t2)] (σ, s1, q) := by
        intro t2  e_t2
        rw [eTt2] at e_t2
        refine wi_istore hC [(5, .int (bI t2)), (0, .ref 35), (1, .int a1), (2, .int a2), (3, .int a3), (4, .int a4)] d_MO_operate_69 (by decide) rfl ?_
        refine wi_aload_n hC 1 d_MO_operate_71 rfl rfl ?_
        refine wi_iconst hC 0 (by decide) d_MO_operate_72 ?_
        refine wi_iload hC 0 d_MO_operate_73 rfl ?_
        obtain ⟨Tt3, eTt3⟩ : ∃ y : Int32, y = (
                if t2 = true then
                  a3
                else
                  a2) := ⟨_, rfl⟩
        have Jt3 : ∀ (t3 : Int32), Tt3 = t3 → WS p l e { frames := 5, cells := 0, slots := 0, locals := 148 } s m args below meth c Q E 7 83 [(5, .int (bI t2)), (0, .ref 35), (1, .int a1), (2, .int a2), (3, .int a3), (4, .int a4)] [.int t3, .int 0, .ref 35] (σ, s1, q) := by
          intro t3  e_t3
          rw [eTt3] at e_t3
          refine k_MO_take hC (by unfold vp_in; decide) (by rw [← e_t3]; (repeat' split) <;> first | exact hp | exact hq) wd_795 (by decide) (Nat.le_of_ble_eq_true rfl) d_MO_operate_83 ?_
          refine wi_nmM (fun s2 e_s2 => ?_)
          refine wi_aload_n hC 1 d_MO_operate_86 rfl rfl ?_
          refine wi_iconst hC 1 (by decide) d_MO_operate_87 ?_
          refine wi_iload hC 0 d_MO_operate_88 rfl ?_
          obtain ⟨Tt4, eTt4⟩ : ∃ y : Int32, y = (
                  if t2 = true then
                    a2
                  else
                    a3) := ⟨_, rfl⟩
          have Jt4 : ∀ (t4 : Int32), Tt4 = t4 → WS p l e { frames := 5, cells := 0, slots := 0, locals := 148 } s m args below meth c Q E 7 98 [(5, .int (bI t2)), (0, .ref 35), (1, .int a1), (2, .int a2), (3, .int a3), (4, .int a4)] [.int t4, .int 1, .ref 35] (σ, s2, q) := by
            intro t4  e_t4
            rw [eTt4] at e_t4
            refine k_MO_take hC (by unfold vp_in; decide) (by rw [← e_t4]; (repeat' split) <;> first | exact hq | exact hp) wd_795 (by decide) (Nat.le_of_ble_eq_true rfl) d_MO_operate_98 ?_
            refine wi_nmM (fun s3 e_s3 => ?_)
            refine wi_aload_n hC 1 d_MO_operate_101 rfl rfl ?_
            refine wi_iconst hC 0 (by decide) d_MO_operate_102 ?_
            refine wp_MO_told hC wd_686 d_MO_operate_103 ?_
            refine wi_nmM (fun s4 e_s4 => ?_)
            refine wi_aload_n hC 1 d_MO_operate_106 rfl rfl ?_
            refine wi_iconst hC 0 (by decide) d_MO_operate_107 ?_
            refine wp_MO_stopped hC false rfl wd_687 d_MO_operate_108 ?_
            refine wi_nmM (fun s5 e_s5 => ?_)
            refine wi_iload_n hC 2 d_MO_operate_111 rfl rfl ?_
            refine wi_bipush hC 6 (by decide) d_MO_operate_112 ?_
            obtain ⟨Tt5, eTt5⟩ : ∃ y : Bool, y = (
                    if 6 ≤ a1 then
                      false
                    else
                      true) := ⟨_, rfl⟩
            have Jt5 : ∀ (t5 : Bool), Tt5 = t5 → WS p l e { frames := 5, cells := 0, slots := 0, locals := 148 } s m args below meth c Q E 7 122 [(5, .int (bI t2)), (0, .ref 35), (1, .int a1), (2, .int a2), (3, .int a3), (4, .int a4)] [.int (bI t5)] (σ, s5, q) := by
              intro t5  e_t5
              rw [eTt5] at e_t5
              refine wi_istore hC [(6, .int (bI t5)), (5, .int (bI t2)), (0, .ref 35), (1, .int a1), (2, .int a2), (3, .int a3), (4, .int a4)] d_MO_operate_122 (by decide) rfl ?_
              refine wi_aload_n hC 2 d_MO_operate_124 rfl rfl ?_
              refine wi_iconst hC 0 (by decide) d_MO_operate_125 ?_
              refine k_MO_isNone hC (by unfold vp_in; decide) wd_691 (by decide) (Nat.le_of_ble_eq_true rfl) d_MO_operate_126 ?_
              obtain ⟨Tt6, eTt6⟩ : ∃ y : St, y = (
                      if f_MO_isNone s5 0 = true then
                        f_MO_operate_b145 a2 a3 s5 t5
                      else
                        if t5 = true then
                          if f_MO_isNone s5 1 = true then
                            f_MO_operate_b145 a2 a3 s5 t5
                          else
                            f_MO_operate_b176 a1 s5
                        else
                          f_MO_operate_b176 a1 s5) := ⟨_, rfl⟩
              have Jt6 : ∀ (t6 : St), Tt6 = t6 → WS p l e { frames := 5, cells := 0, slots := 0, locals := 148 } s m args below meth c Q E 7 220 [(6, .int (bI t5)), (5, .int (bI t2)), (0, .ref 35), (1, .int a1), (2, .int a2), (3, .int a3), (4, .int a4)] [] (σ, t6, q) := by
                intro t6  e_t6
                rw [eTt6] at e_t6
                refine wi_aload_n hC 2 d_MO_operate_220 rfl rfl ?_
                refine wi_aload_n hC 2 d_MO_operate_221 rfl rfl ?_
                refine wg_MO_all hC wd_798 d_MO_operate_222 ?_
                refine wi_aload_n hC 2 d_MO_operate_225 rfl rfl ?_
                refine wg_MO_told hC wd_686 d_MO_operate_226 ?_
                refine wi_ior hC d_MO_operate_229 ?_
                refine wp_MO_all hC wd_798 d_MO_operate_230 ?_
                refine wi_nmM (fun s11 e_s11 => ?_)
                refine wi_aload_n hC 2 d_MO_operate_233 rfl rfl ?_
                refine wg_MO_stopped hC wd_687 d_MO_operate_234 ?_
                obtain ⟨Tt9, eTt9⟩ : ∃ y : St, y = (
                        if gZ s11 22 35 = true then
                          s11
                        else
                          let s12 : St := sI s11 104 (jat a4) (gI s11 23 35)
                          let s13 : St := sJ s12 105 (jat a4) (gJ s12 24 35)
                          s13) := ⟨_, rfl⟩
                have Jt9 : ∀ (t9 : St), Tt9 = t9 → WS p l e { frames := 5, cells := 0, slots := 0, locals := 148 } s m args below meth c Q E 7 262 [(6, .int (bI t5)), (5, .int (bI t2)), (0, .ref 35), (1, .int a1), (2, .int a2), (3, .int a3), (4, .int a4)] [] (σ, t9, q) := by
                  intro t9  e_t9
                  rw [eTt9] at e_t9
                  refine wi_aload_n hC 2 d_MO_operate_262 rfl rfl ?_
                  refine wg_MO_told hC wd_686 d_MO_operate_263 ?_
                  have hf : f_MO_operate τ a1 a2 a3 a4 = (gI t9 21 35, t9) := by subst e_t9; subst e_s11; subst e_t6; subst e_t5; subst e_s5; subst e_s4; subst e_s3; subst e_t4; subst e_s2; subst e_t3; subst e_t2; subst e_s1; subst e_t1; exact (if_pos h6)
                  exact wi_iret hC hr hk d_MO_operate_266 (congrArg (fun z => some (Value.int z.1)) hf) (congrArg (fun z => (σ, z.2, q)) hf).symm hQ
                refine wi_z_ne (b := (gZ s11 22 35)) hC 262 d_MO_operate_237 (by decide) (fun h19 => ?_) (fun h19 => ?_)
                · skip
                  exact Jt9 s11 (by exact (Eq.trans eTt9 (if_pos h19)))
                · skip
                  refine wi_aload_n hC 2 d_MO_operate_240 rfl rfl ?_
                  refine wg_MO_top hC wd_668 d_MO_operate_241 ?_
                  refine wi_iload hC 6 d_MO_operate_244 rfl ?_
                  refine wi_aload_n hC 2 d_MO_operate_246 rfl rfl ?_
                  refine wg_MO_topOf hC wd_694 d_MO_operate_247 ?_
                  refine wa_st36 hC (by rw [hs]; exact fun q => absurd q (by decide)) (by rw [hs]; unfold vp_in; decide) d_MO_operate_250 ?_
                  refine wi_nmM (fun s12 e_s12 => ?_)
                  refine wi_aload_n hC 2 d_MO_operate_251 rfl rfl ?_
                  refine wg_MO_fraction hC wd_669 d_MO_operate_252 ?_
                  refine wi_iload hC 6 d_MO_operate_255 rfl ?_
                  refine wi_aload_n hC 2 d_MO_operate_257 rfl rfl ?_
                  refine wg_MO_fractionOf hC wd_695 d_MO_operate_258 ?_
                  refine wa_st37 hC (by rw [hs]; unfold vp_in; decide) d_MO_operate_261 ?_
                  refine wi_nmM (fun s13 e_s13 => ?_)
                  exact Jt9 s13 (by subst e_s13; subst e_s12; exact (Eq.trans eTt9 (if_neg h19)))
              have B3 : Tt6 = f_MO_operate_b145 a2 a3 s5 t5 → WS p l e { frames := 5, cells := 0, slots := 0, locals := 148 } s m args below meth c Q E 7 145 [(6, .int (bI t5)), (5, .int (bI t2)), (0, .ref 35), (1, .int a1), (2, .int a2), (3, .int a3), (4, .int a4)] [] (σ, s5, q) := by
                intro hB3
                refine wi_aload_n hC 2 d_MO_operate_145 rfl rfl ?_
                refine wi_iconst hC 0 (by decide) d_MO_operate_146 ?_
                refine wi_iload_n hC 4 d_MO_operate_147 rfl rfl ?_
                refine k_MO_take hC (by unfold vp_in; decide) hp wd_795 (by decide) (Nat.le_of_ble_eq_true rfl) d_MO_operate_148 ?_
                refine wi_nmM (fun s8 e_s8 => ?_)
                refine wi_aload_n hC 2 d_MO_operate_151 rfl rfl ?_
                refine wi_iconst hC 1 (by decide) d_MO_operate_152 ?_
                refine wi_iload_n hC 5 d_MO_operate_153 rfl rfl ?_
                refine k_MO_take hC (by unfold vp_in; decide) hq wd_795 (by decide) (Nat.le_of_ble_eq_true rfl) d_MO_operate_154 ?_
                refine wi_nmM (fun s9 e_s9 => ?_)
                refine wi_aload_n hC 2 d_MO_operate_157 rfl rfl ?_
                refine wi_iload hC 0 d_MO_operate_158 rfl ?_
                obtain ⟨Tt8, eTt8⟩ : ∃ y : Int32, y = (
                        if t5 = true then
                          2
                        else
                          1) := ⟨_, rfl⟩
                have Jt8 : ∀ (t8 : Int32), Tt8 = t8 → WS p l e { frames := 5, cells := 0, slots := 0, locals := 148 } s m args below meth c Q E 7 168 [(6, .int (bI t5)), (5, .int (bI t2)), (0, .ref 35), (1, .int a1), (2, .int a2), (3, .int a3), (4, .int a4)] [.int t8, .ref 35] (σ, s9, q) := by
                  intro t8  e_t8
                  rw [eTt8] at e_t8
                  refine wi_iload_n hC 4 d_MO_operate_168 rfl rfl ?_
                  refine wi_iload_n hC 5 d_MO_operate_169 rfl rfl ?_
                  refine k_MO_noNumber hC (vin28 hp) (vin28 hq) wd_797 (by decide) (Nat.le_of_ble_eq_true rfl) d_MO_operate_170 ?_
                  refine wi_nmM (fun s10 e_s10 => ?_)
                  refine wi_goto hC 220 d_MO_operate_173 (by decide) ?_
                  exact Jt6 s10 (by subst e_s10; subst e_t8; subst e_s9; subst e_s8; exact hB3)
                refine wi_z_eq (b := t5) hC 167 d_MO_operate_160 (by decide) (fun h18 => ?_) (fun h18 => ?_)
                · skip
                  refine wi_iconst hC 1 (by decide) d_MO_operate_167 ?_
                  exact Jt8 1 (by exact (Eq.trans eTt8 (if_neg h18)))
                · skip
                  refine wi_iconst hC 2 (by decide) d_MO_operate_163 ?_
                  refine wi_goto hC 168 d_MO_operate_164 (by decide) ?_
                  exact Jt8 2 (by exact (Eq.trans eTt8 (if_pos h18)))
              refine wi_z_ne (b := (f_MO_isNone s5 0)) hC 145 d_MO_operate_129 (by decide) (fun h12 => ?_) (fun h12 => ?_)
              · skip
                exact B3   (by exact (Eq.trans eTt6 (if_pos h12)))
              · skip
                refine wi_iload hC 0 d_MO_operate_132 rfl ?_
                have B1 : Tt6 = f_MO_operate_b176 a1 s5 → WS p l e { frames := 5, cells := 0, slots := 0, locals := 148 } s m args below meth c Q E 7 176 [(6, .int (bI t5)), (5, .int (bI t2)), (0, .ref 35), (1, .int a1), (2, .int a2), (3, .int a3), (4, .int a4)] [] (σ, s5, q) := by
                  intro hB1
                  refine wi_aload_n hC 2 d_MO_operate_176 rfl rfl ?_
                  refine wg_MO_minus hC wd_674 d_MO_operate_177 ?_
                  refine wi_iconst hC 1 (by decide) d_MO_operate_180 ?_
                  refine wi_iload_n hC 3 d_MO_operate_181 rfl rfl ?_
                  refine wi_iconst hC 1 (by decide) d_MO_operate_182 ?_
                  obtain ⟨Tt7, eTt7⟩ : ∃ y : Bool, y = (
                          if a1 = 1 then
                            f_MO_operate_b191 s5
                          else
                            if a1 = 2 then
                              f_MO_operate_b191 s5
                            else
                              gZ s5 106 (jat 1)) := ⟨_, rfl⟩
                  have Jt7 : ∀ (t7 : Bool), Tt7 = t7 → WS p l e { frames := 5, cells := 0, slots := 0, locals := 148 } s m args below meth c Q E 7 214 [(6, .int (bI t5)), (5, .int (bI t2)), (0, .ref 35), (1, .int a1), (2, .int a2), (3, .int a3), (4, .int a4)] [.int (bI t7), .int 1, .ref 38] (σ, s5, q) := by
                    intro t7  e_t7
                    rw [eTt7] at e_t7
                    refine wa_st38 hC t7 rfl (by unfold vp_in; decide) d_MO_operate_214 ?_
                    refine wi_nmM (fun s6 e_s6 => ?_)
                    refine wi_aload_n hC 2 d_MO_operate_215 rfl rfl ?_
                    refine wi_iload_n hC 3 d_MO_operate_216 rfl rfl ?_
                    refine k_MO_work hC  wd_796 (by decide) (Nat.le_of_ble_eq_true rfl) d_MO_operate_217 ?_
                    refine wi_nmM (fun s7 e_s7 => ?_)
                    exact Jt6 s7 (by subst e_s7; subst e_s6; subst e_t7; exact hB1)
                  have B2 : Tt7 = f_MO_operate_b191 s5 → WS p l e { frames := 5, cells := 0, slots := 0, locals := 148 } s m args below meth c Q E 7 191 [(6, .int (bI t5)), (5, .int (bI t2)), (0, .ref 35), (1, .int a1), (2, .int a2), (3, .int a3), (4, .int a4)] [.int 1, .ref 38] (σ, s5, q) := by
                    intro hB2
                    refine wi_aload_n hC 2 d_MO_operate_191 rfl rfl ?_
                    refine wg_MO_minus hC wd_674 d_MO_operate_192 ?_
                    refine wi_iconst hC 1 (by decide) d_MO_operate_195 ?_
                    refine wa_ld38 hC (by unfold vp_in; decide) d_MO_operate_196 ?_
                    refine wi_z_ne (b := (gZ s5 106 (jat 1))) hC 204 d_MO_operate_197 (by decide) (fun h17 => ?_) (fun h17 => ?_)
                    · skip
                      refine wi_iconst hC 0 (by decide) d_MO_operate_204 ?_
                      refine wi_goto hC 214 d_MO_operate_205 (by decide) ?_
                      exact Jt7 false (by exact (Eq.trans hB2 (if_pos h17)))
                    · skip
                      refine wi_iconst hC 1 (by decide) d_MO_operate_200 ?_
                      refine wi_goto hC 214 d_MO_operate_201 (by decide) ?_
                      exact Jt7 true (by exact (Eq.trans hB2 (if_neg h17)))
                  refine wi_icmp_eq hC 191 d_MO_operate_183 (by decide) (fun h15 => ?_) (fun h15 => ?_)
                  · skip
                    exact B2   (by exact (Eq.trans eTt7 (if_pos h15)))
                  · skip
                    refine wi_iload_n hC 3 d_MO_operate_186 rfl rfl ?_
                    refine wi_iconst hC 2 (by decide) d_MO_operate_187 ?_
                    refine wi_icmp_ne hC 208 d_MO_operate_188 (by decide) (fun h16 => ?_) (fun h16 => ?_)
                    · skip
                      refine wi_aload_n hC 2 d_MO_operate_208 rfl rfl ?_
                      refine wg_MO_minus hC wd_674 d_MO_operate_209 ?_
                      refine wi_iconst hC 1 (by decide) d_MO_operate_212 ?_
                      refine wa_ld38 hC (by unfold vp_in; decide) d_MO_operate_213 ?_
                      exact Jt7 (gZ s5 106 (jat 1)) (by exact (Eq.trans eTt7 (Eq.trans (if_neg h15) (if_neg h16))))
                    · skip
                      exact B2   (by exact (Eq.trans eTt7 (Eq.trans (if_neg h15) (if_pos h16))))
                refine wi_z_eq (b := t5) hC 176 d_MO_operate_134 (by decide) (fun h13 => ?_) (fun h13 => ?_)
                · skip
                  exact B1   (by exact (Eq.trans eTt6 (Eq.trans (if_neg h12) (if_neg h13))))
                · skip
                  refine wi_aload_n hC 2 d_MO_operate_137 rfl rfl ?_
                  refine wi_iconst hC 1 (by decide) d_MO_operate_138 ?_
                  refine k_MO_isNone hC (by unfold vp_in; decide) wd_691 (by decide) (Nat.le_of_ble_eq_true rfl) d_MO_operate_139 ?_
                  refine wi_z_eq (b := (f_MO_isNone s5 1)) hC 176 d_MO_operate_142 (by decide) (fun h14 => ?_) (fun h14 => ?_)
                  · skip
                    exact B1   (by exact (Eq.trans eTt6 (Eq.trans (if_neg h12) (Eq.trans (if_pos h13) (if_neg h14)))))
                  · skip
                    exact B3   (by exact (Eq.trans eTt6 (Eq.trans (if_neg h12) (Eq.trans (if_pos h13) (if_pos h14)))))
            refine wi_icmp_ge hC 121 d_MO_operate_114 (by decide) (fun h11 => ?_) (fun h11 => ?_)
            · skip
              refine wi_iconst hC 0 (by decide) d_MO_operate_121 ?_
              exact Jt5 false (by exact (Eq.trans eTt5 (if_pos h11)))
            · skip
              refine wi_iconst hC 1 (by decide) d_MO_operate_117 ?_
              refine wi_goto hC 122 d_MO_operate_118 (by decide) ?_
              exact Jt5 true (by exact (Eq.trans eTt5 (if_neg h11)))
          refine wi_z_eq (b := t2) hC 97 d_MO_operate_90 (by decide) (fun h10 => ?_) (fun h10 => ?_)
          · skip
            refine wi_iload_n hC 4 d_MO_operate_97 rfl rfl ?_
            exact Jt4 a3 (by exact (Eq.trans eTt4 (if_neg h10)))
          · skip
            refine wi_iload_n hC 3 d_MO_operate_93 rfl rfl ?_
            refine wi_goto hC 98 d_MO_operate_94 (by decide) ?_
            exact Jt4 a2 (by exact (Eq.trans eTt4 (if_pos h10)))
        refine wi_z_eq (b := t2) hC 82 d_MO_operate_75 (by decide) (fun h9 => ?_) (fun h9 => ?_)
        · skip
          refine wi_iload_n hC 3 d_MO_operate_82 rfl rfl ?_
          exact Jt3 a2 (by exact (Eq.trans eTt3 (if_neg h9)))
        · skip
          refine wi_iload_n hC 4 d_MO_operate_78 rfl rfl ?_
          refine wi_goto hC 83 d_MO_operate_79 (by decide) ?_
          exact Jt3 a3 (by exact (Eq.trans eTt3 (if_pos h9)))
      refine wi_icmp_eq hC 64 d_MO_operate_56 (by decide) (fun h7 => ?_) (fun h7 => ?_)
      · skip
        refine wi_iconst hC 1 (by decide) d_MO_operate_64 ?_
        refine wi_goto hC 69 d_MO_operate_65 (by decide) ?_
        exact Jt2 true (by exact (Eq.trans eTt2 (if_pos h7)))
      · skip
        refine wi_iload_n hC 1 d_MO_operate_59 rfl rfl ?_
        refine wi_iconst hC 5 (by decide) d_MO_operate_60 ?_
        refine wi_icmp_ne hC 68 d_MO_operate_61 (by decide) (fun h8 => ?_) (fun h8 => ?_)
        · skip
          refine wi_iconst hC 0 (by decide) d_MO_operate_68 ?_
          exact Jt2 false (by exact (Eq.trans eTt2 (Eq.trans (if_neg h7) (if_neg h8))))
        · skip
          refine wi_iconst hC 1 (by decide) d_MO_operate_64 ?_
          refine wi_goto hC 69 d_MO_operate_65 (by decide) ?_
          exact Jt2 true (by exact (Eq.trans eTt2 (Eq.trans (if_neg h7) (if_pos h8))))
    · skip
      refine wi_iconst hC 0 (by decide) d_MO_operate_52 ?_
      have hf : f_MO_operate τ a1 a2 a3 a4 = (0, s1) := by subst e_s1; subst e_t1; exact (if_neg h6)
      exact wi_iret hC hr hk d_MO_operate_53 (congrArg (fun z => some (Value.int z.1)) hf) (congrArg (fun z => (σ, z.2, q)) hf).symm hQ
  refine wi_z_ne (b := (f_MO_none a2)) hC 23 d_MO_operate_5 (by decide) (fun h1 => ?_) (fun h1 => ?_)
  · skip
    refine wi_iconst hC 1 (by decide) d_MO_operate_23 ?_
    refine wi_goto hC 42 d_MO_operate_24 (by decide) ?_
    exact Jt1 1 (by exact (Eq.trans eTt1 (if_pos h1)))
  · skip
    refine wi_iload_n hC 3 d_MO_operate_8 rfl rfl ?_
    refine k_MO_none hC  wd_667 (by decide) (Nat.le_of_ble_eq_true rfl) d_MO_operate_9 ?_
    refine wi_z_ne (b := (f_MO_none a3)) hC 23 d_MO_operate_12 (by decide) (fun h2 => ?_) (fun h2 => ?_)
    · skip
      refine wi_iconst hC 1 (by decide) d_MO_operate_23 ?_
      refine wi_goto hC 42 d_MO_operate_24 (by decide) ?_
      exact Jt1 1 (by exact (Eq.trans eTt1 (Eq.trans (if_neg h1) (if_pos h2))))
    · skip
      refine wi_iload hC 4 d_MO_operate_15 rfl ?_
      refine k_MO_none hC  wd_667 (by decide) (Nat.le_of_ble_eq_true rfl) d_MO_operate_17 ?_
      refine wi_z_eq (b := (f_MO_none a4)) hC 27 d_MO_operate_20 (by decide) (fun h3 => ?_) (fun h3 => ?_)
      · skip
        refine wi_iload_n hC 1 d_MO_operate_27 rfl rfl ?_
        refine wi_if_lt hC 37 d_MO_operate_28 (by decide) (fun h4 => ?_) (fun h4 => ?_)
        · skip
          refine wi_iconst hC 2 (by decide) d_MO_operate_37 ?_
          refine wi_goto hC 42 d_MO_operate_38 (by decide) ?_
          exact Jt1 2 (by exact (Eq.trans eTt1 (Eq.trans (if_neg h1) (Eq.trans (if_neg h2) (Eq.trans (if_neg h3) (if_pos h4))))))
        · skip
          refine wi_iload_n hC 1 d_MO_operate_31 rfl rfl ?_
          refine wi_bipush hC 6 (by decide) d_MO_operate_32 ?_
          refine wi_icmp_le hC 41 d_MO_operate_34 (by decide) (fun h5 => ?_) (fun h5 => ?_)
          · skip
            refine wi_iconst hC 0 (by decide) d_MO_operate_41 ?_
            exact Jt1 0 (by exact (Eq.trans eTt1 (Eq.trans (if_neg h1) (Eq.trans (if_neg h2) (Eq.trans (if_neg h3) (Eq.trans (if_neg h4) (if_pos h5)))))))
          · skip
            refine wi_iconst hC 2 (by decide) d_MO_operate_37 ?_
            refine wi_goto hC 42 d_MO_operate_38 (by decide) ?_
            exact Jt1 2 (by exact (Eq.trans eTt1 (Eq.trans (if_neg h1) (Eq.trans (if_neg h2) (Eq.trans (if_neg h3) (Eq.trans (if_neg h4) (if_neg h5)))))))
      · skip
        refine wi_iconst hC 1 (by decide) d_MO_operate_23 ?_
        refine wi_goto hC 42 d_MO_operate_24 (by decide) ?_
        exact Jt1 1 (by exact (Eq.trans eTt1 (Eq.trans (if_neg h1) (Eq.trans (if_neg h2) (if_pos h3)))))
theorem k_MO_operate {p : Program} {l : Launch} {e : Env} {R : Room} {s : State} {m : MethodId} {args : Array Value} {below : List Frame} {meth : Method} {c : Code} {Q : State → Prop} {E : Ev} {nL pc index : Nat} {lv : List (Nat × Value)} {rest : List Value} {cc : ByteArray} {own : String} {σ τ : St} {q : Int64} {a1 : Int32} {a2 : Int32} {a3 : Int32} {a4 : Int32} (hC : Cx p s m args c cc nL own E)  (hp : vp_in a2 2) (hq : vp_in a3 2) (hs : a4 = 2) (hl : Cond.methodLink own index y_MO_operate ∈ WL) (hR : 5 + 1 ≤ R.frames ∧ 8 + (7 + 11) + 148 ≤ R.locals) (hs8 : (rest.map fun v => v.category).sum ≤ 8) (d : decode cc pc = .ok (.invokevirtual index, 3)) (k : WS p l e R s m args below meth c Q E nL (pc + 3) lv ((.int ((f_MO_operate τ a1 a2 a3 a4).1)) :: rest) (σ, (f_MO_operate τ a1 a2 a3 a4).2, q)) : WS p l e R s m args below meth c Q E nL pc lv (.int a4 :: .int a3 :: .int a2 :: .int a1 :: .ref 35 :: rest) (σ, τ, q) := by
  exact wi_callV hC (n := 4) (vs := [.int a1, .int a2, .int a3, .int a4]) (rest := rest) 35 11 (by decide) rfl rfl rfl (c_MO_operate l E σ τ q a1 a2 a3 a4 hp hq hs) (by decide +kernel) wd_799 wd_662 wd_800 wd_801 ⟨rfl, rfl⟩ rfl rfl hl hR hs8 d k
set_option maxRecDepth 100000 in
set_option maxHeartbeats 400000 in
theorem c_MO_part (l : Launch) (E : Ev) (σ τ : St) (q : Int64) (a1 : Int32) (a2 : Int32) (hp : vp_in a1 8) : MF l y_MO_part prog_14_method_6_code 3 (some .int) { frames := 1, cells := 0, slots := 0, locals := 20 } E [.ref 35, .int a1, .int a2] (σ, τ, q) (some (.int ((f_MO_part τ a1 a2).1))) (σ, (f_MO_part τ a1 a2).2, q) := by
  refine MF_intro (lv0 := [(0, .ref 35), (1, .int a1), (2, .int a2)]) (by decide) wd_802 (Nat.le_of_ble_eq_true rfl) rfl ?_
  intro p e s m args below meth c Q hC hr hk hQ
  replace hC : Cx p s m args c prog_14_method_6_code 3 "PartnerStackModel$RealOperationsModel" E := hC
  refine wi_aload_n hC 0 d_MO_part_0 rfl rfl ?_
  refine wi_iload_n hC 1 d_MO_part_1 rfl rfl ?_
  refine k_MO_none hC  wd_667 (by decide) (Nat.le_of_ble_eq_true rfl) d_MO_part_2 ?_
  obtain ⟨Tt1, eTt1⟩ : ∃ y : Int32, y = (
          if f_MO_none a1 = true then
            1
          else
            if a2 < 0 then
              2
            else
              if a2 ≤ 2 then
                0
              else
                2) := ⟨_, rfl⟩
  have Jt1 : ∀ (t1 : Int32), Tt1 = t1 → WS p l e { frames := 1, cells := 0, slots := 0, locals := 20 } s m args below meth c Q E 3 26 [(0, .ref 35), (1, .int a1), (2, .int a2)] [.int t1, .ref 35] (σ, τ, q) := by
    intro t1  e_t1
    rw [eTt1] at e_t1
    refine wp_MO_code hC wd_659 d_MO_part_26 ?_
    refine wi_nmM (fun s1 e_s1 => ?_)
    refine wi_aload_n hC 0 d_MO_part_29 rfl rfl ?_
    refine wg_MO_code hC wd_659 d_MO_part_30 ?_
    refine wi_if_le hC 38 d_MO_part_33 (by decide) (fun h4 => ?_) (fun h4 => ?_)
    · skip
      refine wi_iload_n hC 2 d_MO_part_38 rfl rfl ?_
      obtain ⟨Tt2, eTt2⟩ : ∃ y : Int32, y = (
              if a2 = 0 then
                gI s1 104 (jat a1)
              else
                if a2 = 1 then
                  Int64.toInt32 (jlshr (gJ s1 105 (jat a1)) 32)
                else
                  Int64.toInt32 (gJ s1 105 (jat a1))) := ⟨_, rfl⟩
      have Jt2 : ∀ (t2 : Int32), Tt2 = t2 → WS p l e { frames := 1, cells := 0, slots := 0, locals := 20 } s m args below meth c Q E 3 76 [(0, .ref 35), (1, .int a1), (2, .int a2)] [.int t2] (σ, s1, q) := by
        intro t2  e_t2
        rw [eTt2] at e_t2
        have hf : f_MO_part τ a1 a2 = (t2, s1) := by subst e_t2; subst e_s1; subst e_t1; exact (if_pos h4)
        exact wi_iret hC hr hk d_MO_part_76 (congrArg (fun z => some (Value.int z.1)) hf) (congrArg (fun z => (σ, z.2, q)) hf).symm hQ
      refine wi_if_ne hC 51 d_MO_part_39 (by decide) (fun h5 => ?_) (fun h5 => ?_)
      · skip
        refine wi_iload_n hC 2 d_MO_part_51 rfl rfl ?_
        refine wi_iconst hC 1 (by decide) d_MO_part_52 ?_
        refine wi_icmp_ne hC 69 d_MO_part_53 (by decide) (fun h6 => ?_) (fun h6 => ?_)
        · skip
          refine wi_aload_n hC 0 d_MO_part_69 rfl rfl ?_
          refine wg_MO_fraction hC wd_669 d_MO_part_70 ?_
          refine wi_iload_n hC 1 d_MO_part_73 rfl rfl ?_
          refine wa_ld37 hC hp d_MO_part_74 ?_
          refine wi_l2i hC d_MO_part_75 ?_
          exact Jt2 (Int64.toInt32 (gJ s1 105 (jat a1))) (by exact (Eq.trans eTt2 (Eq.trans (if_neg h5) (if_neg h6))))
        · skip
          refine wi_aload_n hC 0 d_MO_part_56 rfl rfl ?_
          refine wg_MO_fraction hC wd_669 d_MO_part_57 ?_
          refine wi_iload_n hC 1 d_MO_part_60 rfl rfl ?_
          refine wa_ld37 hC hp d_MO_part_61 ?_
          refine wi_bipush hC 32 (by decide) d_MO_part_62 ?_
          refine wi_lshr hC d_MO_part_64 ?_
          refine wi_l2i hC d_MO_part_65 ?_
          refine wi_goto hC 76 d_MO_part_66 (by decide) ?_
          exact Jt2 (Int64.toInt32 (jlshr (gJ s1 105 (jat a1)) 32)) (by exact (Eq.trans eTt2 (Eq.trans (if_neg h5) (if_pos h6))))
      · skip
        refine wi_aload_n hC 0 d_MO_part_42 rfl rfl ?_
        refine wg_MO_top hC wd_668 d_MO_part_43 ?_
        refine wi_iload_n hC 1 d_MO_part_46 rfl rfl ?_
        refine wa_ld36 hC hp d_MO_part_47 ?_
        refine wi_goto hC 76 d_MO_part_48 (by decide) ?_
        exact Jt2 (gI s1 104 (jat a1)) (by exact (Eq.trans eTt2 (if_pos h5)))
    · skip
      refine wi_iconst hC 0 (by decide) d_MO_part_36 ?_
      have hf : f_MO_part τ a1 a2 = (0, s1) := by subst e_s1; subst e_t1; exact (if_neg h4)
      exact wi_iret hC hr hk d_MO_part_37 (congrArg (fun z => some (Value.int z.1)) hf) (congrArg (fun z => (σ, z.2, q)) hf).symm hQ
  refine wi_z_eq (b := (f_MO_none a1)) hC 12 d_MO_part_5 (by decide) (fun h1 => ?_) (fun h1 => ?_)
  · skip
    refine wi_iload_n hC 2 d_MO_part_12 rfl rfl ?_
    refine wi_if_lt hC 21 d_MO_part_13 (by decide) (fun h2 => ?_) (fun h2 => ?_)
    · skip
      refine wi_iconst hC 2 (by decide) d_MO_part_21 ?_
      refine wi_goto hC 26 d_MO_part_22 (by decide) ?_
      exact Jt1 2 (by exact (Eq.trans eTt1 (Eq.trans (if_neg h1) (if_pos h2))))
    · skip
      refine wi_iload_n hC 2 d_MO_part_16 rfl rfl ?_
      refine wi_iconst hC 2 (by decide) d_MO_part_17 ?_
      refine wi_icmp_le hC 25 d_MO_part_18 (by decide) (fun h3 => ?_) (fun h3 => ?_)
      · skip
        refine wi_iconst hC 0 (by decide) d_MO_part_25 ?_
        exact Jt1 0 (by exact (Eq.trans eTt1 (Eq.trans (if_neg h1) (Eq.trans (if_neg h2) (if_pos h3)))))
      · skip
        refine wi_iconst hC 2 (by decide) d_MO_part_21 ?_
        refine wi_goto hC 26 d_MO_part_22 (by decide) ?_
        exact Jt1 2 (by exact (Eq.trans eTt1 (Eq.trans (if_neg h1) (Eq.trans (if_neg h2) (if_neg h3)))))
  · skip
    refine wi_iconst hC 1 (by decide) d_MO_part_8 ?_
    refine wi_goto hC 26 d_MO_part_9 (by decide) ?_
    exact Jt1 1 (by exact (Eq.trans eTt1 (if_pos h1)))
theorem k_MO_part {p : Program} {l : Launch} {e : Env} {R : Room} {s : State} {m : MethodId} {args : Array Value} {below : List Frame} {meth : Method} {c : Code} {Q : State → Prop} {E : Ev} {nL pc index : Nat} {lv : List (Nat × Value)} {rest : List Value} {cc : ByteArray} {own : String} {σ τ : St} {q : Int64} {a1 : Int32} {a2 : Int32} (hC : Cx p s m args c cc nL own E)  (hp : vp_in a1 8) (hl : Cond.methodLink own index y_MO_part ∈ WL) (hR : 1 + 1 ≤ R.frames ∧ 8 + (3 + 11) + 20 ≤ R.locals) (hs8 : (rest.map fun v => v.category).sum ≤ 8) (d : decode cc pc = .ok (.invokevirtual index, 3)) (k : WS p l e R s m args below meth c Q E nL (pc + 3) lv ((.int ((f_MO_part τ a1 a2).1)) :: rest) (σ, (f_MO_part τ a1 a2).2, q)) : WS p l e R s m args below meth c Q E nL pc lv (.int a2 :: .int a1 :: .ref 35 :: rest) (σ, τ, q) := by
  exact wi_callV hC (n := 2) (vs := [.int a1, .int a2]) (rest := rest) 35 11 (by decide) rfl rfl rfl (c_MO_part l E σ τ q a1 a2 hp) (by decide +kernel) wd_802 wd_662 wd_803 wd_804 ⟨rfl, rfl⟩ rfl rfl hl hR hs8 d k
