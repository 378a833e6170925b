set_option maxRecDepth 100000 in
set_option maxHeartbeats 400000 in
theorem c_MC_control (l : Launch) (E : Ev) (σ τ : St) (q : Int64) (a1 : Int32)  : MF l y_MC_control prog_13_method_3_code 2 none { frames := 0, cells := 0, slots := 0, locals := 0 } E [.ref 45, .int a1] (σ, τ, q) none (σ, (f_MC_control τ a1), q) := by
  refine MF_intro (lv0 := [(0, .ref 45), (1, .int a1)]) (by decide) wd_557 (Nat.le_of_ble_eq_true rfl) rfl ?_
  intro p e s m args below meth c Q hC hr hk hQ
  replace hC : Cx p s m args c prog_13_method_3_code 2 "PartnerStackModel$RealConversionsModel" E := hC
  refine wi_aload_n hC 0 d_MC_control_0 rfl rfl ?_
  refine wi_iload_n hC 1 d_MC_control_1 rfl rfl ?_
  obtain ⟨Tt1, eTt1⟩ : ∃ y : Bool, y = (
          if a1 < 0 then
            true
          else
            if a1 ≤ 65535 then
              false
            else
              true) := ⟨_, rfl⟩
  have Jt1 : ∀ (t1 : Bool), Tt1 = t1 → WS p l e { frames := 0, cells := 0, slots := 0, locals := 0 } s m args below meth c Q E 2 16 [(0, .ref 45), (1, .int a1)] [.int (bI t1), .ref 45] (σ, τ, q) := by
    intro t1  e_t1
    rw [eTt1] at e_t1
    refine wp_MC_code hC wd_555 d_MC_control_16 ?_
    refine wi_nmM (fun s1 e_s1 => ?_)
    refine wi_aload_n hC 0 d_MC_control_19 rfl rfl ?_
    refine wg_MC_code hC wd_555 d_MC_control_20 ?_
    obtain ⟨Tt2, eTt2⟩ : ∃ y : St, y = (
            if gI s1 37 45 = 0 then
              let s2 : St := sI s1 38 45 a1
              s2
            else
              s1) := ⟨_, rfl⟩
    have Jt2 : ∀ (t2 : St), Tt2 = t2 → WS p l e { frames := 0, cells := 0, slots := 0, locals := 0 } s m args below meth c Q E 2 31 [(0, .ref 45), (1, .int a1)] [] (σ, t2, q) := by
      intro t2  e_t2
      rw [eTt2] at e_t2
      have hf : f_MC_control τ a1 = t2 := by subst e_t2; subst e_s1; subst e_t1; exact rfl
      exact wi_vret hC hr hk d_MC_control_31 rfl (congrArg (fun z => (σ, z, q)) hf).symm hQ
    refine wi_if_ne hC 31 d_MC_control_23 (by decide) (fun h3 => ?_) (fun h3 => ?_)
    · skip
      exact Jt2 s1 (by exact (Eq.trans eTt2 (if_neg h3)))
    · skip
      refine wi_aload_n hC 0 d_MC_control_26 rfl rfl ?_
      refine wi_iload_n hC 1 d_MC_control_27 rfl rfl ?_
      refine wp_MC_word hC wd_556 d_MC_control_28 ?_
      refine wi_nmM (fun s2 e_s2 => ?_)
      exact Jt2 s2 (by subst e_s2; exact (Eq.trans eTt2 (if_pos h3)))
  refine wi_if_lt hC 11 d_MC_control_2 (by decide) (fun h1 => ?_) (fun h1 => ?_)
  · skip
    refine wi_iconst hC 1 (by decide) d_MC_control_11 ?_
    refine wi_goto hC 16 d_MC_control_12 (by decide) ?_
    exact Jt1 true (by exact (Eq.trans eTt1 (if_pos h1)))
  · skip
    refine wi_iload_n hC 1 d_MC_control_5 rfl rfl ?_
    refine wi_ldc hC wd_554 d_MC_control_6 ?_
    refine wi_icmp_le hC 15 d_MC_control_8 (by decide) (fun h2 => ?_) (fun h2 => ?_)
    · skip
      refine wi_iconst hC 0 (by decide) d_MC_control_15 ?_
      exact Jt1 false (by exact (Eq.trans eTt1 (Eq.trans (if_neg h1) (if_pos h2))))
    · skip
      refine wi_iconst hC 1 (by decide) d_MC_control_11 ?_
      refine wi_goto hC 16 d_MC_control_12 (by decide) ?_
      exact Jt1 true (by exact (Eq.trans eTt1 (Eq.trans (if_neg h1) (if_neg h2))))
theorem k_MC_control {p : Program} {l : Launch} {e : Env} {R : Room} {s : State} {m : MethodId} {args : Array Value} {below : List Frame} {meth : Method} {c : Code} {Q : State → Prop} {E : Ev} {nL pc index : Nat} {lv : List (Nat × Value)} {rest : List Value} {cc : ByteArray} {own : String} {σ τ : St} {q : Int64} {a1 : Int32} (hC : Cx p s m args c cc nL own E)   (hl : Cond.methodLink own index y_MC_control ∈ WL) (hR : 0 + 1 ≤ R.frames ∧ 8 + (2 + 11) + 0 ≤ R.locals) (hs8 : (rest.map fun v => v.category).sum ≤ 8) (d : decode cc pc = .ok (.invokevirtual index, 3)) (k : WS p l e R s m args below meth c Q E nL (pc + 3) lv rest (σ, (f_MC_control τ a1), q)) : WS p l e R s m args below meth c Q E nL pc lv (.int a1 :: .ref 45 :: rest) (σ, τ, q) := by
  exact wi_callV hC (n := 1) (vs := [.int a1]) (rest := rest) 45 13 (by decide) rfl rfl rfl (c_MC_control l E σ τ q a1 ) (by decide +kernel) wd_557 wd_558 wd_559 wd_560 ⟨rfl, rfl⟩ rfl rfl hl hR hs8 d k
set_option maxRecDepth 100000 in
set_option maxHeartbeats 400000 in
theorem c_MC_memory (l : Launch) (E : Ev) (σ τ : St) (q : Int64) (a1 : Int32) (a2 : Int32) (a3 : Int32)  : MF l y_MC_memory prog_13_method_7_code 5 none { frames := 0, cells := 0, slots := 0, locals := 0 } E [.ref 45, .int a1, .int a2, .int a3] (σ, τ, q) none (σ, (f_MC_memory τ a1 a2 a3), q) := by
  refine MF_intro (lv0 := [(0, .ref 45), (1, .int a1), (2, .int a2), (3, .int a3)]) (by decide) wd_562 (Nat.le_of_ble_eq_true rfl) rfl ?_
  intro p e s m args below meth c Q hC hr hk hQ
  replace hC : Cx p s m args c prog_13_method_7_code 5 "PartnerStackModel$RealConversionsModel" E := hC
  refine wi_aload_n hC 0 d_MC_memory_0 rfl rfl ?_
  refine wi_iconst hC 0 (by decide) d_MC_memory_1 ?_
  refine wp_MC_code hC wd_555 d_MC_memory_2 ?_
  refine wi_nmM (fun s1 e_s1 => ?_)
  refine wi_iconst hC 0 (by decide) d_MC_memory_5 ?_
  refine wi_istore hC [(4, .int 0), (0, .ref 45), (1, .int a1), (2, .int a2), (3, .int a3)] d_MC_memory_6 (by decide) rfl ?_
  refine wi_loop ((b_MC_memory_8 a1 a2 a3)) (fun t2 => 0 ≤ (t2.1).toInt) (fun t2 => [(4, .int t2.1), (0, .ref 45), (1, .int a1), (2, .int a2), (3, .int a3)]) (fun t2 => (σ, t2.2, q)) 77 ?_ (up_inv (b := (b_MC_memory_8 a1 a2 a3)) (fun t => t.1) 10 0 (st_b_MC_memory_8 a1 a2 a3)) (upf 10 0) (0, s1) (show (0 : Int) ≤ (0 : Int32).toInt by decide) (up_halt (b := (b_MC_memory_8 a1 a2 a3)) (fun t => t.1) 10 (st_b_MC_memory_8 a1 a2 a3) (0, s1)) ?_
  · intro t2 hi_t2 hc_t2 hx_t2
    refine wi_iload hC 0 d_MC_memory_8 rfl ?_
    refine wi_bipush hC 10 (by decide) d_MC_memory_10 ?_
    refine wi_icmp_ge hC 77 d_MC_memory_12 (by decide) (fun h1 => ?_) (fun h1 => ?_)
    · skip
      exact hx_t2 (t2.1, t2.2) (by exact (if_pos h1))
    · skip
      refine wi_aload_n hC 1 d_MC_memory_15 rfl rfl ?_
      refine wg_MC_memory hC wd_561 d_MC_memory_16 ?_
      refine wi_iload hC 0 d_MC_memory_19 rfl ?_
      refine wi_iload hC 0 d_MC_memory_21 rfl ?_
      refine wi_iconst hC 4 (by decide) d_MC_memory_23 ?_
      obtain ⟨Tt3, eTt3⟩ : ∃ y : Int32, y = (
              if 4 ≤ t2.1 then
                if 8 ≤ t2.1 then
                  jshr a3 (8 * (t2.1 - 8))
                else
                  jshr a2 (8 * (t2.1 - 4))
              else
                jshr a1 (8 * t2.1)) := ⟨_, rfl⟩
      have Jt3 : ∀ (t3 : Int32), Tt3 = t3 → WS p l e { frames := 0, cells := 0, slots := 0, locals := 0 } s m args below meth c Q E 5 66 [(4, .int t2.1), (0, .ref 45), (1, .int a1), (2, .int a2), (3, .int a3)] [.int t3, .int t2.1, .ref 48] (σ, t2.2, q) := by
        intro t3  e_t3
        rw [eTt3] at e_t3
        refine wi_sipush hC 255 (by decide) d_MC_memory_66 ?_
        refine wi_iand hC d_MC_memory_69 ?_
        refine wa_st48 hC (vin_of hi_t2 (hi_n h1 (by decide))) d_MC_memory_70 ?_
        refine wi_nmM (fun s2 e_s2 => ?_)
        obtain ⟨v1, e_v1⟩ : ∃ y : Int32, t2.1 + 1 = y := ⟨_, rfl⟩
        refine wi_iinc hC 0 v1 [(4, .int v1), (0, .ref 45), (1, .int a1), (2, .int a2), (3, .int a3)] d_MC_memory_71 rfl (by rw [← e_v1]; rfl) (by decide) rfl ?_
        refine wi_goto hC 8 d_MC_memory_74 (by decide) ?_
        exact hc_t2 (v1, s2) (by subst e_v1; subst e_s2; subst e_t3; exact (if_neg h1))
      refine wi_icmp_ge hC 37 d_MC_memory_24 (by decide) (fun h2 => ?_) (fun h2 => ?_)
      · skip
        refine wi_iload hC 0 d_MC_memory_37 rfl ?_
        refine wi_bipush hC 8 (by decide) d_MC_memory_39 ?_
        refine wi_icmp_ge hC 56 d_MC_memory_41 (by decide) (fun h3 => ?_) (fun h3 => ?_)
        · skip
          refine wi_iload_n hC 4 d_MC_memory_56 rfl rfl ?_
          refine wi_bipush hC 8 (by decide) d_MC_memory_57 ?_
          refine wi_iload hC 0 d_MC_memory_59 rfl ?_
          refine wi_bipush hC 8 (by decide) d_MC_memory_61 ?_
          refine wi_isub hC d_MC_memory_63 ?_
          refine wi_imul hC d_MC_memory_64 ?_
          refine wi_ishr hC d_MC_memory_65 ?_
          exact Jt3 (jshr a3 (8 * (t2.1 - 8))) (by exact (Eq.trans eTt3 (Eq.trans (if_pos h2) (if_pos h3))))
        · skip
          refine wi_iload_n hC 3 d_MC_memory_44 rfl rfl ?_
          refine wi_bipush hC 8 (by decide) d_MC_memory_45 ?_
          refine wi_iload hC 0 d_MC_memory_47 rfl ?_
          refine wi_iconst hC 4 (by decide) d_MC_memory_49 ?_
          refine wi_isub hC d_MC_memory_50 ?_
          refine wi_imul hC d_MC_memory_51 ?_
          refine wi_ishr hC d_MC_memory_52 ?_
          refine wi_goto hC 66 d_MC_memory_53 (by decide) ?_
          exact Jt3 (jshr a2 (8 * (t2.1 - 4))) (by exact (Eq.trans eTt3 (Eq.trans (if_pos h2) (if_neg h3))))
      · skip
        refine wi_iload_n hC 2 d_MC_memory_27 rfl rfl ?_
        refine wi_bipush hC 8 (by decide) d_MC_memory_28 ?_
        refine wi_iload hC 0 d_MC_memory_30 rfl ?_
        refine wi_imul hC d_MC_memory_32 ?_
        refine wi_ishr hC d_MC_memory_33 ?_
        refine wi_goto hC 66 d_MC_memory_34 (by decide) ?_
        exact Jt3 (jshr a1 (8 * t2.1)) (by exact (Eq.trans eTt3 (if_neg h2)))
  obtain ⟨t1, e_t1⟩ : ∃ y : Int32 × St, lpn ((b_MC_memory_8 a1 a2 a3)) (upf 10 0) (0, s1) = y := ⟨_, rfl⟩
  rw [e_t1]
  have hf : f_MC_memory τ a1 a2 a3 = t1.2 := by subst e_t1; subst e_s1; exact rfl
  exact wi_vret hC hr hk d_MC_memory_77 rfl (congrArg (fun z => (σ, z, q)) hf).symm hQ
theorem k_MC_memory {p : Program} {l : Launch} {e : Env} {R : Room} {s : State} {m : MethodId} {args : Array Value} {below : List Frame} {meth : Method} {c : Code} {Q : State → Prop} {E : Ev} {nL pc index : Nat} {lv : List (Nat × Value)} {rest : List Value} {cc : ByteArray} {own : String} {σ τ : St} {q : Int64} {a1 : Int32} {a2 : Int32} {a3 : Int32} (hC : Cx p s m args c cc nL own E)   (hl : Cond.methodLink own index y_MC_memory ∈ WL) (hR : 0 + 1 ≤ R.frames ∧ 8 + (5 + 11) + 0 ≤ R.locals) (hs8 : (rest.map fun v => v.category).sum ≤ 8) (d : decode cc pc = .ok (.invokevirtual index, 3)) (k : WS p l e R s m args below meth c Q E nL (pc + 3) lv rest (σ, (f_MC_memory τ a1 a2 a3), q)) : WS p l e R s m args below meth c Q E nL pc lv (.int a3 :: .int a2 :: .int a1 :: .ref 45 :: rest) (σ, τ, q) := by
  exact wi_callV hC (n := 3) (vs := [.int a1, .int a2, .int a3]) (rest := rest) 45 13 (by decide) rfl rfl rfl (c_MC_memory l E σ τ q a1 a2 a3 ) (by decide +kernel) wd_562 wd_558 wd_563 wd_564 ⟨rfl, rfl⟩ rfl rfl hl hR hs8 d k
set_option maxRecDepth 100000 in
set_option maxHeartbeats 400000 in
theorem c_MC_none (l : Launch) (E : Ev) (σ τ : St) (q : Int64) (a1 : Int32)  : MF l y_MC_none prog_13_method_4_code 1 (some .boolean) { frames := 0, cells := 0, slots := 0, locals := 0 } E [.int a1] (σ, τ, q) (some (.int (bI (f_MC_none a1)))) (σ, τ, q) := by
  refine MF_intro (lv0 := [(0, .int a1)]) (by decide) wd_565 (Nat.le_of_ble_eq_true rfl) rfl ?_
  intro p e s m args below meth c Q hC hr hk hQ
  replace hC : Cx p s m args c prog_13_method_4_code 1 "PartnerStackModel$RealConversionsModel" E := hC
  refine wi_iload_n hC 0 d_MC_none_0 rfl rfl ?_
  obtain ⟨Tt1, eTt1⟩ : ∃ y : Bool, y = (
          if a1 < 0 then
            true
          else
            if a1 ≤ 7 then
              false
            else
              true) := ⟨_, rfl⟩
  have Jt1 : ∀ (t1 : Bool), Tt1 = t1 → WS p l e { frames := 0, cells := 0, slots := 0, locals := 0 } s m args below meth c Q E 1 15 [(0, .int a1)] [.int (bI t1)] (σ, τ, q) := by
    intro t1  e_t1
    rw [eTt1] at e_t1
    have hf : f_MC_none a1 = t1 := by subst e_t1; exact rfl
    exact wi_zret hC hr hk d_MC_none_15 rfl (congrArg (fun z => some (Value.int (bI z))) hf) rfl hQ
  refine wi_if_lt hC 10 d_MC_none_1 (by decide) (fun h1 => ?_) (fun h1 => ?_)
  · skip
    refine wi_iconst hC 1 (by decide) d_MC_none_10 ?_
    refine wi_goto hC 15 d_MC_none_11 (by decide) ?_
    exact Jt1 true (by exact (Eq.trans eTt1 (if_pos h1)))
  · skip
    refine wi_iload_n hC 0 d_MC_none_4 rfl rfl ?_
    refine wi_bipush hC 7 (by decide) d_MC_none_5 ?_
    refine wi_icmp_le hC 14 d_MC_none_7 (by decide) (fun h2 => ?_) (fun h2 => ?_)
    · skip
      refine wi_iconst hC 0 (by decide) d_MC_none_14 ?_
      exact Jt1 false (by exact (Eq.trans eTt1 (Eq.trans (if_neg h1) (if_pos h2))))
    · skip
      refine wi_iconst hC 1 (by decide) d_MC_none_10 ?_
      refine wi_goto hC 15 d_MC_none_11 (by decide) ?_
      exact Jt1 true (by exact (Eq.trans eTt1 (Eq.trans (if_neg h1) (if_neg h2))))
theorem k_MC_none {p : Program} {l : Launch} {e : Env} {R : Room} {s : State} {m : MethodId} {args : Array Value} {below : List Frame} {meth : Method} {c : Code} {Q : State → Prop} {E : Ev} {nL pc index : Nat} {lv : List (Nat × Value)} {rest : List Value} {cc : ByteArray} {own : String} {σ τ : St} {q : Int64} {a1 : Int32} (hC : Cx p s m args c cc nL own E)   (hl : Cond.methodLink own index y_MC_none ∈ WL) (hR : 0 + 1 ≤ R.frames ∧ 8 + (1 + 11) + 0 ≤ R.locals) (hs8 : (rest.map fun v => v.category).sum ≤ 8) (d : decode cc pc = .ok (.invokestatic index, 3)) (k : WS p l e R s m args below meth c Q E nL (pc + 3) lv ((.int (bI (f_MC_none a1))) :: rest) (σ, τ, q)) : WS p l e R s m args below meth c Q E nL pc lv (.int a1 :: rest) (σ, τ, q) := by
  exact wi_callS hC (n := 1) (vs := [.int a1]) (rest := rest) (c_MC_none l E σ τ q a1 ) (by decide +kernel) wd_565 wd_558 wd_566 ⟨rfl, rfl⟩ rfl rfl hl hR hs8 d k
set_option maxRecDepth 100000 in
set_option maxHeartbeats 400000 in
theorem c_MC_bit (l : Launch) (E : Ev) (σ τ : St) (q : Int64) (a1 : Int32) (hp : vp_in a1 80) : MF l y_MC_bit prog_13_method_10_code 2 (some .int) { frames := 0, cells := 0, slots := 0, locals := 0 } E [.ref 45, .int a1] (σ, τ, q) (some (.int (f_MC_bit τ a1))) (σ, τ, q) := by
  refine MF_intro (lv0 := [(0, .ref 45), (1, .int a1)]) (by decide) wd_567 (Nat.le_of_ble_eq_true rfl) rfl ?_
  intro p e s m args below meth c Q hC hr hk hQ
  replace hC : Cx p s m args c prog_13_method_10_code 2 "PartnerStackModel$RealConversionsModel" E := hC
  refine wi_aload_n hC 0 d_MC_bit_0 rfl rfl ?_
  refine wg_MC_memory hC wd_561 d_MC_bit_1 ?_
  refine wi_iload_n hC 1 d_MC_bit_4 rfl rfl ?_
  refine wi_bipush hC 8 (by decide) d_MC_bit_5 ?_
  refine wi_idiv hC (by decide) d_MC_bit_7 ?_
  refine wa_ld48 hC (div8 hp) d_MC_bit_8 ?_
  refine wi_iload_n hC 1 d_MC_bit_9 rfl rfl ?_
  refine wi_bipush hC 8 (by decide) d_MC_bit_10 ?_
  refine wi_irem hC (by decide) d_MC_bit_12 ?_
  refine wi_ishr hC d_MC_bit_13 ?_
  refine wi_iconst hC 1 (by decide) d_MC_bit_14 ?_
  refine wi_iand hC d_MC_bit_15 ?_
  have hf : f_MC_bit τ a1 = (jshr (gI τ 114 (jat (a1 / 8))) (jrem a1 8)) &&& 1 := by exact rfl
  exact wi_iret hC hr hk d_MC_bit_16 (congrArg (fun z => some (Value.int z)) hf) rfl hQ
theorem k_MC_bit {p : Program} {l : Launch} {e : Env} {R : Room} {s : State} {m : MethodId} {args : Array Value} {below : List Frame} {meth : Method} {c : Code} {Q : State → Prop} {E : Ev} {nL pc index : Nat} {lv : List (Nat × Value)} {rest : List Value} {cc : ByteArray} {own : String} {σ τ : St} {q : Int64} {a1 : Int32} (hC : Cx p s m args c cc nL own E)  (hp : vp_in a1 80) (hl : Cond.methodLink own index y_MC_bit ∈ WL) (hR : 0 + 1 ≤ R.frames ∧ 8 + (2 + 11) + 0 ≤ R.locals) (hs8 : (rest.map fun v => v.category).sum ≤ 8) (d : decode cc pc = .ok (.invokevirtual index, 3)) (k : WS p l e R s m args below meth c Q E nL (pc + 3) lv ((.int (f_MC_bit τ a1)) :: rest) (σ, τ, q)) : WS p l e R s m args below meth c Q E nL pc lv (.int a1 :: .ref 45 :: rest) (σ, τ, q) := by
  exact wi_callV hC (n := 1) (vs := [.int a1]) (rest := rest) 45 13 (by decide) rfl rfl rfl (c_MC_bit l E σ τ q a1 hp) (by decide +kernel) wd_567 wd_558 wd_568 wd_569 ⟨rfl, rfl⟩ rfl rfl hl hR hs8 d k
set_option maxRecDepth 100000 in
set_option maxHeartbeats 400000 in
theorem c_MC_bits (l : Launch) (E : Ev) (σ τ : St) (q : Int64) (a1 : Int32) (a2 : Int32) (hp : 0 ≤ a1.toInt ∧ 0 ≤ a2.toInt ∧ a1.toInt + a2.toInt ≤ 80) : MF l y_MC_bits prog_13_method_12_code 6 (some .long) { frames := 1, cells := 0, slots := 0, locals := 21 } E [.ref 45, .int a1, .int a2] (σ, τ, q) (some (.long (f_MC_bits τ a1 a2))) (σ, τ, q) := by
  refine MF_intro (lv0 := [(0, .ref 45), (1, .int a1), (2, .int a2)]) (by decide) wd_572 (Nat.le_of_ble_eq_true rfl) rfl ?_
  intro p e s m args below meth c Q hC hr hk hQ
  replace hC : Cx p s m args c prog_13_method_12_code 6 "PartnerStackModel$RealConversionsModel" E := hC
  refine wi_lconst hC 0 (by decide) d_MC_bits_0 ?_
  refine wi_lstore_n hC [(3, .long 0), (0, .ref 45), (1, .int a1), (2, .int a2)] d_MC_bits_1 rfl (by decide) rfl ?_
  refine wi_iload_n hC 3 d_MC_bits_2 rfl rfl ?_
  refine wi_iconst hC 1 (by decide) d_MC_bits_3 ?_
  refine wi_isub hC d_MC_bits_4 ?_
  refine wi_nmI (fun v1 e_v1 => ?_)
  refine wi_istore hC [(5, .int v1), (3, .long 0), (0, .ref 45), (1, .int a1), (2, .int a2)] d_MC_bits_5 (by decide) rfl ?_
  refine wi_loop ((b_MC_bits_7 τ a1)) (fun t2 => (t2.1).toInt ≤ (a2.toInt - 1)) (fun t2 => [(5, .int t2.1), (3, .long t2.2), (0, .ref 45), (1, .int a1), (2, .int a2)]) (fun t2 => (σ, τ, q)) 34 ?_ (dn_inv (b := (b_MC_bits_7 τ a1)) (fun t => t.1) (a2.toInt - 1) (st_b_MC_bits_7 τ a1)) (dnf v1) (v1, 0) (by show v1.toInt ≤ _; rw [← e_v1]; exact m1_le hp.2.1) (dn_halt (b := (b_MC_bits_7 τ a1)) (fun t => t.1) (st_b_MC_bits_7 τ a1) (v1, 0)) ?_
  · intro t2 hi_t2 hc_t2 hx_t2
    refine wi_iload hC 0 d_MC_bits_7 rfl ?_
    refine wi_if_lt hC 34 d_MC_bits_9 (by decide) (fun h1 => ?_) (fun h1 => ?_)
    · skip
      exact hx_t2 (t2.1, t2.2) (by exact (if_pos h1))
    · skip
      refine wi_ldc2 hC wd_570 d_MC_bits_12 ?_
      refine wi_lload_n hC 1 d_MC_bits_15 rfl rfl ?_
      refine wi_lmul hC d_MC_bits_16 ?_
      refine wi_aload_n hC 2 d_MC_bits_17 rfl rfl ?_
      refine wi_iload_n hC 3 d_MC_bits_18 rfl rfl ?_
      refine wi_iload hC 0 d_MC_bits_19 rfl ?_
      refine wi_iadd hC d_MC_bits_21 ?_
      refine k_MC_bit hC (bits_in hp (lo_n h1) hi_t2) wd_571 (by decide) (Nat.le_of_ble_eq_true rfl) d_MC_bits_22 ?_
      refine wi_i2l hC d_MC_bits_25 ?_
      refine wi_ladd hC d_MC_bits_26 ?_
      refine wi_nmJ (fun v2 e_v2 => ?_)
      refine wi_lstore_n hC [(3, .long v2), (5, .int t2.1), (0, .ref 45), (1, .int a1), (2, .int a2)] d_MC_bits_27 rfl (by decide) rfl ?_
      obtain ⟨v3, e_v3⟩ : ∃ y : Int32, t2.1 + (-1) = y := ⟨_, rfl⟩
      refine wi_iinc hC 1 v3 [(5, .int v3), (3, .long v2), (0, .ref 45), (1, .int a1), (2, .int a2)] d_MC_bits_28 rfl (by rw [← e_v3]; rfl) (by decide) rfl ?_
      refine wi_goto hC 7 d_MC_bits_31 (by decide) ?_
      exact hc_t2 (v3, v2) (by subst e_v3; subst e_v2; exact (if_neg h1))
  obtain ⟨t1, e_t1⟩ : ∃ y : Int32 × Int64, lpn ((b_MC_bits_7 τ a1)) (dnf v1) (v1, 0) = y := ⟨_, rfl⟩
  rw [e_t1]
  refine wi_lload_n hC 1 d_MC_bits_34 rfl rfl ?_
  have hf : f_MC_bits τ a1 a2 = t1.2 := by subst e_t1; subst e_v1; exact rfl
  exact wi_lret hC hr hk d_MC_bits_35 (congrArg (fun z => some (Value.long z)) hf) rfl hQ
theorem k_MC_bits {p : Program} {l : Launch} {e : Env} {R : Room} {s : State} {m : MethodId} {args : Array Value} {below : List Frame} {meth : Method} {c : Code} {Q : State → Prop} {E : Ev} {nL pc index : Nat} {lv : List (Nat × Value)} {rest : List Value} {cc : ByteArray} {own : String} {σ τ : St} {q : Int64} {a1 : Int32} {a2 : Int32} (hC : Cx p s m args c cc nL own E)  (hp : 0 ≤ a1.toInt ∧ 0 ≤ a2.toInt ∧ a1.toInt + a2.toInt ≤ 80) (hl : Cond.methodLink own index y_MC_bits ∈ WL) (hR : 1 + 1 ≤ R.frames ∧ 8 + (6 + 11) + 21 ≤ R.locals) (hs8 : (rest.map fun v => v.category).sum ≤ 8) (d : decode cc pc = .ok (.invokevirtual index, 3)) (k : WS p l e R s m args below meth c Q E nL (pc + 3) lv ((.long (f_MC_bits τ a1 a2)) :: rest) (σ, τ, q)) : WS p l e R s m args below meth c Q E nL pc lv (.int a2 :: .int a1 :: .ref 45 :: rest) (σ, τ, q) := by
  exact wi_callV hC (n := 2) (vs := [.int a1, .int a2]) (rest := rest) 45 13 (by decide) rfl rfl rfl (c_MC_bits l E σ τ q a1 a2 hp) (by decide +kernel) wd_572 wd_558 wd_573 wd_574 ⟨rfl, rfl⟩ rfl rfl hl hR hs8 d k
set_option maxRecDepth 100000 in
set_option maxHeartbeats 400000 in
theorem c_MC_masked (l : Launch) (E : Ev) (σ τ : St) (q : Int64) (a1 : Int32) (hp : ¬ a1 = 0) : MF l y_MC_masked prog_13_method_9_code 2 (some .boolean) { frames := 0, cells := 0, slots := 0, locals := 0 } E [.ref 45, .int a1] (σ, τ, q) (some (.int (bI (f_MC_masked τ a1)))) (σ, τ, q) := by
  refine MF_intro (lv0 := [(0, .ref 45), (1, .int a1)]) (by decide) wd_575 (Nat.le_of_ble_eq_true rfl) rfl ?_
  intro p e s m args below meth c Q hC hr hk hQ
  replace hC : Cx p s m args c prog_13_method_9_code 2 "PartnerStackModel$RealConversionsModel" E := hC
  refine wi_aload_n hC 0 d_MC_masked_0 rfl rfl ?_
  refine wg_MC_word hC wd_556 d_MC_masked_1 ?_
  refine wi_iload_n hC 1 d_MC_masked_4 rfl rfl ?_
  refine wi_idiv hC hp d_MC_masked_5 ?_
  refine wi_iconst hC 2 (by decide) d_MC_masked_6 ?_
  refine wi_irem hC (by decide) d_MC_masked_7 ?_
  refine wi_iconst hC 1 (by decide) d_MC_masked_8 ?_
  obtain ⟨Tt1, eTt1⟩ : ∃ y : Bool, y = (
          if jrem ((gI τ 38 45) / a1) 2 = 1 then
            true
          else
            false) := ⟨_, rfl⟩
  have Jt1 : ∀ (t1 : Bool), Tt1 = t1 → WS p l e { frames := 0, cells := 0, slots := 0, locals := 0 } s m args below meth c Q E 2 17 [(0, .ref 45), (1, .int a1)] [.int (bI t1)] (σ, τ, q) := by
    intro t1  e_t1
    rw [eTt1] at e_t1
    have hf : f_MC_masked τ a1 = t1 := by subst e_t1; exact rfl
    exact wi_zret hC hr hk d_MC_masked_17 rfl (congrArg (fun z => some (Value.int (bI z))) hf) rfl hQ
  refine wi_icmp_ne hC 16 d_MC_masked_9 (by decide) (fun h1 => ?_) (fun h1 => ?_)
  · skip
    refine wi_iconst hC 0 (by decide) d_MC_masked_16 ?_
    exact Jt1 false (by exact (Eq.trans eTt1 (if_neg h1)))
  · skip
    refine wi_iconst hC 1 (by decide) d_MC_masked_12 ?_
    refine wi_goto hC 17 d_MC_masked_13 (by decide) ?_
    exact Jt1 true (by exact (Eq.trans eTt1 (if_pos h1)))
theorem k_MC_masked {p : Program} {l : Launch} {e : Env} {R : Room} {s : State} {m : MethodId} {args : Array Value} {below : List Frame} {meth : Method} {c : Code} {Q : State → Prop} {E : Ev} {nL pc index : Nat} {lv : List (Nat × Value)} {rest : List Value} {cc : ByteArray} {own : String} {σ τ : St} {q : Int64} {a1 : Int32} (hC : Cx p s m args c cc nL own E)  (hp : ¬ a1 = 0) (hl : Cond.methodLink own index y_MC_masked ∈ WL) (hR : 0 + 1 ≤ R.frames ∧ 8 + (2 + 11) + 0 ≤ R.locals) (hs8 : (rest.map fun v => v.category).sum ≤ 8) (d : decode cc pc = .ok (.invokevirtual index, 3)) (k : WS p l e R s m args below meth c Q E nL (pc + 3) lv ((.int (bI (f_MC_masked τ a1))) :: rest) (σ, τ, q)) : WS p l e R s m args below meth c Q E nL pc lv (.int a1 :: .ref 45 :: rest) (σ, τ, q) := by
  exact wi_callV hC (n := 1) (vs := [.int a1]) (rest := rest) 45 13 (by decide) rfl rfl rfl (c_MC_masked l E σ τ q a1 hp) (by decide +kernel) wd_575 wd_558 wd_576 wd_577 ⟨rfl, rfl⟩ rfl rfl hl hR hs8 d k
set_option maxRecDepth 100000 in
set_option maxHeartbeats 400000 in
theorem c_MC_become (l : Launch) (E : Ev) (σ τ : St) (q : Int64) (a1 : Int32) (a2 : Bool) (a3 : Int64) (a4 : Int32) (hp : vp_in a1 8) : MF l y_MC_become prog_13_method_14_code 7 none { frames := 0, cells := 0, slots := 0, locals := 0 } E [.ref 45, .int a1, .int (bI a2), .long a3, .int a4] (σ, τ, q) none (σ, (f_MC_become τ a1 a2 a3 a4), q) := by
  refine MF_intro (lv0 := [(0, .ref 45), (1, .int a1), (2, .int (bI a2)), (3, .long a3), (5, .int a4)]) (by decide) wd_581 (Nat.le_of_ble_eq_true rfl) rfl ?_
  intro p e s m args below meth c Q hC hr hk hQ
  replace hC : Cx p s m args c prog_13_method_14_code 7 "PartnerStackModel$RealConversionsModel" E := hC
  refine wi_aload_n hC 0 d_MC_become_0 rfl rfl ?_
  refine wg_MC_top hC wd_578 d_MC_become_1 ?_
  refine wi_iload_n hC 1 d_MC_become_4 rfl rfl ?_
  refine wi_iload_n hC 2 d_MC_become_5 rfl rfl ?_
  obtain ⟨Tt1, eTt1⟩ : ∃ y : Int32, y = (
          if a2 = true then
            32768
          else
            0) := ⟨_, rfl⟩
  have Jt1 : ∀ (t1 : Int32), Tt1 = t1 → WS p l e { frames := 0, cells := 0, slots := 0, locals := 0 } s m args below meth c Q E 7 15 [(0, .ref 45), (1, .int a1), (2, .int (bI a2)), (3, .long a3), (5, .int a4)] [.int t1, .int a1, .ref 46] (σ, τ, q) := by
    intro t1  e_t1
    rw [eTt1] at e_t1
    refine wa_st46 hC hp d_MC_become_15 ?_
    refine wi_nmM (fun s1 e_s1 => ?_)
    refine wi_aload_n hC 0 d_MC_become_16 rfl rfl ?_
    refine wg_MC_fraction hC wd_580 d_MC_become_17 ?_
    refine wi_iload_n hC 1 d_MC_become_20 rfl rfl ?_
    refine wi_lconst hC 0 (by decide) d_MC_become_21 ?_
    refine wa_st47 hC hp d_MC_become_22 ?_
    refine wi_nmM (fun s2 e_s2 => ?_)
    refine wi_lload_n hC 3 d_MC_become_23 rfl rfl ?_
    refine wi_lconst hC 0 (by decide) d_MC_become_24 ?_
    refine wi_lcmp_ne hC 30 d_MC_become_25 d_MC_become_26 (by decide) (fun h2 => ?_) (fun h2 => ?_)
    · skip
      refine wi_bipush hC 63 (by decide) d_MC_become_30 ?_
      refine wi_istore hC [(6, .int 63), (0, .ref 45), (1, .int a1), (2, .int (bI a2)), (3, .long a3), (5, .int a4)] d_MC_become_32 (by decide) rfl ?_
      refine wi_loop ((b_MC_become_34 a3)) (fun t3 => True) (fun t3 => [(6, .int t3), (0, .ref 45), (1, .int a1), (2, .int (bI a2)), (3, .long a3), (5, .int a4)]) (fun t3 => (σ, s2, q)) 51 ?_ (fun _ _ _ _ => trivial) (65) 63 trivial (bit_halt (w := a3) (by assumption) (b := (b_MC_become_34 a3)) (fun _ => rfl)) ?_
      · intro t3 hi_t3 hc_t3 hx_t3
        refine wi_lload_n hC 4 d_MC_become_34 rfl rfl ?_
        refine wi_iload hC 0 d_MC_become_35 rfl ?_
        refine wi_lshr hC d_MC_become_37 ?_
        refine wi_lconst hC 1 (by decide) d_MC_become_38 ?_
        refine wi_land hC d_MC_become_39 ?_
        refine wi_lconst hC 0 (by decide) d_MC_become_40 ?_
        refine wi_lcmp_ne hC 51 d_MC_become_41 d_MC_become_42 (by decide) (fun h3 => ?_) (fun h3 => ?_)
        · skip
          exact hx_t3 t3 (by exact (if_neg h3))
        · skip
          obtain ⟨v1, e_v1⟩ : ∃ y : Int32, t3 + (-1) = y := ⟨_, rfl⟩
          refine wi_iinc hC 0 v1 [(6, .int v1), (0, .ref 45), (1, .int a1), (2, .int (bI a2)), (3, .long a3), (5, .int a4)] d_MC_become_45 rfl (by rw [← e_v1]; rfl) (by decide) rfl ?_
          refine wi_goto hC 34 d_MC_become_48 (by decide) ?_
          exact hc_t3 v1 (by subst e_v1; exact (if_pos h3))
      obtain ⟨t2, e_t2⟩ : ∃ y : Int32, lpn ((b_MC_become_34 a3)) (65) 63 = y := ⟨_, rfl⟩
      rw [e_t2]
      refine wi_aload_n hC 1 d_MC_become_51 rfl rfl ?_
      refine wg_MC_top hC wd_578 d_MC_become_52 ?_
      refine wi_iload_n hC 2 d_MC_become_55 rfl rfl ?_
      refine wi_dup2_11 hC rfl rfl d_MC_become_56 ?_
      refine wa_ld46 hC hp d_MC_become_57 ?_
      refine wi_iload hC 5 d_MC_become_58 rfl ?_
      refine wi_iload hC 0 d_MC_become_60 rfl ?_
      refine wi_iadd hC d_MC_become_62 ?_
      refine wi_sipush hC 16383 (by decide) d_MC_become_63 ?_
      refine wi_iadd hC d_MC_become_66 ?_
      refine wi_iadd hC d_MC_become_67 ?_
      refine wa_st46 hC hp d_MC_become_68 ?_
      refine wi_nmM (fun s3 e_s3 => ?_)
      refine wi_aload_n hC 1 d_MC_become_69 rfl rfl ?_
      refine wg_MC_fraction hC wd_580 d_MC_become_70 ?_
      refine wi_iload_n hC 2 d_MC_become_73 rfl rfl ?_
      refine wi_lload_n hC 4 d_MC_become_74 rfl rfl ?_
      refine wi_bipush hC 63 (by decide) d_MC_become_75 ?_
      refine wi_iload hC 0 d_MC_become_77 rfl ?_
      refine wi_isub hC d_MC_become_79 ?_
      refine wi_lshl hC d_MC_become_80 ?_
      refine wa_st47 hC hp d_MC_become_81 ?_
      refine wi_nmM (fun s4 e_s4 => ?_)
      have hf : f_MC_become τ a1 a2 a3 a4 = s4 := by subst e_s4; subst e_s3; subst e_t2; subst e_s2; subst e_s1; subst e_t1; exact (if_neg h2)
      exact wi_vret hC hr hk d_MC_become_82 rfl (congrArg (fun z => (σ, z, q)) hf).symm hQ
    · skip
      have hf : f_MC_become τ a1 a2 a3 a4 = s2 := by subst e_s2; subst e_s1; subst e_t1; exact (if_pos h2)
      exact wi_vret hC hr hk d_MC_become_29 rfl (congrArg (fun z => (σ, z, q)) hf).symm hQ
  refine wi_z_eq (b := a2) hC 14 d_MC_become_6 (by decide) (fun h1 => ?_) (fun h1 => ?_)
  · skip
    refine wi_iconst hC 0 (by decide) d_MC_become_14 ?_
    exact Jt1 0 (by exact (Eq.trans eTt1 (if_neg h1)))
  · skip
    refine wi_ldc hC wd_579 d_MC_become_9 ?_
    refine wi_goto hC 15 d_MC_become_11 (by decide) ?_
    exact Jt1 32768 (by exact (Eq.trans eTt1 (if_pos h1)))
theorem k_MC_become {p : Program} {l : Launch} {e : Env} {R : Room} {s : State} {m : MethodId} {args : Array Value} {below : List Frame} {meth : Method} {c : Code} {Q : State → Prop} {E : Ev} {nL pc index : Nat} {lv : List (Nat × Value)} {rest : List Value} {cc : ByteArray} {own : String} {σ τ : St} {q : Int64} {a1 : Int32} {a3 : Int64} {a4 : Int32} (hC : Cx p s m args c cc nL own E) {x_a2 : Int32} (a2 : Bool) (hx_a2 : x_a2 = bI a2) (hp : vp_in a1 8) (hl : Cond.methodLink own index y_MC_become ∈ WL) (hR : 0 + 1 ≤ R.frames ∧ 8 + (7 + 11) + 0 ≤ R.locals) (hs8 : (rest.map fun v => v.category).sum ≤ 8) (d : decode cc pc = .ok (.invokevirtual index, 3)) (k : WS p l e R s m args below meth c Q E nL (pc + 3) lv rest (σ, (f_MC_become τ a1 a2 a3 a4), q)) : WS p l e R s m args below meth c Q E nL pc lv (.int a4 :: .long a3 :: .int x_a2 :: .int a1 :: .ref 45 :: rest) (σ, τ, q) := by
  subst hx_a2
  exact wi_callV hC (n := 4) (vs := [.int a1, .int (bI a2), .long a3, .int a4]) (rest := rest) 45 13 (by decide) rfl rfl rfl (c_MC_become l E σ τ q a1 a2 a3 a4 hp) (by decide +kernel) wd_581 wd_558 wd_582 wd_583 ⟨rfl, rfl⟩ rfl rfl hl hR hs8 d k
set_option maxRecDepth 100000 in
set_option maxHeartbeats 400000 in
theorem c_MC_readReal (l : Launch) (E : Ev) (σ τ : St) (q : Int64) (a1 : Int32) (a2 : Int32) (a3 : Int32) (hp : vp_in a1 8) (hs : (a2 = 24 ∧ a3 = 8) ∨ (a2 = 53 ∧ a3 = 11)) : MF l y_MC_readReal prog_13_method_15_code 11 (some .int) { frames := 2, cells := 0, slots := 0, locals := 46 } E [.ref 45, .int a1, .int a2, .int a3] (σ, τ, q) (some (.int ((f_MC_readReal τ a1 a2 a3).1))) (σ, (f_MC_readReal τ a1 a2 a3).2, q) := by
  refine MF_intro (lv0 := [(0, .ref 45), (1, .int a1), (2, .int a2), (3, .int a3)]) (by decide) wd_588 (Nat.le_of_ble_eq_true rfl) rfl ?_
  intro p e s m args below meth c Q hC hr hk hQ
  replace hC : Cx p s m args c prog_13_method_15_code 11 "PartnerStackModel$RealConversionsModel" E := hC
  refine wi_aload_n hC 0 d_MC_readReal_0 rfl rfl ?_
  refine wi_iload_n hC 2 d_MC_readReal_1 rfl rfl ?_
  refine wi_iconst hC 1 (by decide) d_MC_readReal_2 ?_
  refine wi_isub hC d_MC_readReal_3 ?_
  refine wi_iload_n hC 3 d_MC_readReal_4 rfl rfl ?_
  refine wi_iadd hC d_MC_readReal_5 ?_
  refine k_MC_bit hC (pk_b hs) wd_571 (by decide) (Nat.le_of_ble_eq_true rfl) d_MC_readReal_6 ?_
  refine wi_iconst hC 1 (by decide) d_MC_readReal_9 ?_
  obtain ⟨Tt1, eTt1⟩ : ∃ y : Bool, y = (
          if f_MC_bit τ ((a2 - 1) + a3) = 1 then
            true
          else
            false) := ⟨_, rfl⟩
  have Jt1 : ∀ (t1 : Bool), Tt1 = t1 → WS p l e { frames := 2, cells := 0, slots := 0, locals := 46 } s m args below meth c Q E 11 18 [(0, .ref 45), (1, .int a1), (2, .int a2), (3, .int a3)] [.int (bI t1)] (σ, τ, q) := by
    intro t1  e_t1
    rw [eTt1] at e_t1
    refine wi_istore hC [(4, .int (bI t1)), (0, .ref 45), (1, .int a1), (2, .int a2), (3, .int a3)] d_MC_readReal_18 (by decide) rfl ?_
    refine wi_aload_n hC 1 d_MC_readReal_20 rfl rfl ?_
    refine wi_iload_n hC 3 d_MC_readReal_21 rfl rfl ?_
    refine wi_iconst hC 1 (by decide) d_MC_readReal_22 ?_
    refine wi_isub hC d_MC_readReal_23 ?_
    refine wi_iload_n hC 4 d_MC_readReal_24 rfl rfl ?_
    refine k_MC_bits hC (pk_e hs) wd_584 (by decide) (Nat.le_of_ble_eq_true rfl) d_MC_readReal_25 ?_
    refine wi_l2i hC d_MC_readReal_28 ?_
    refine wi_nmI (fun v1 e_v1 => ?_)
    refine wi_istore hC [(5, .int v1), (4, .int (bI t1)), (0, .ref 45), (1, .int a1), (2, .int a2), (3, .int a3)] d_MC_readReal_29 (by decide) rfl ?_
    refine wi_aload_n hC 2 d_MC_readReal_31 rfl rfl ?_
    refine wi_iconst hC 0 (by decide) d_MC_readReal_32 ?_
    refine wi_iload_n hC 4 d_MC_readReal_33 rfl rfl ?_
    refine wi_iconst hC 1 (by decide) d_MC_readReal_34 ?_
    refine wi_isub hC d_MC_readReal_35 ?_
    refine k_MC_bits hC (pk_s hs) wd_584 (by decide) (Nat.le_of_ble_eq_true rfl) d_MC_readReal_36 ?_
    refine wi_nmJ (fun v2 e_v2 => ?_)
    refine wi_lstore hC [(6, .long v2), (5, .int v1), (4, .int (bI t1)), (0, .ref 45), (1, .int a1), (2, .int a2), (3, .int a3)] d_MC_readReal_39 (by decide) rfl ?_
    refine wi_iconst hC 1 (by decide) d_MC_readReal_41 ?_
    refine wi_iload_n hC 6 d_MC_readReal_42 rfl rfl ?_
    refine wi_ishl hC d_MC_readReal_43 ?_
    refine wi_iconst hC 1 (by decide) d_MC_readReal_44 ?_
    refine wi_isub hC d_MC_readReal_45 ?_
    refine wi_nmI (fun v3 e_v3 => ?_)
    refine wi_istore hC [(8, .int v3), (6, .long v2), (5, .int v1), (4, .int (bI t1)), (0, .ref 45), (1, .int a1), (2, .int a2), (3, .int a3)] d_MC_readReal_46 (by decide) rfl ?_
    refine wi_iload hC 0 d_MC_readReal_48 rfl ?_
    refine wi_iconst hC 2 (by decide) d_MC_readReal_50 ?_
    refine wi_idiv hC (by decide) d_MC_readReal_51 ?_
    refine wi_nmI (fun v4 e_v4 => ?_)
    refine wi_istore hC [(9, .int v4), (8, .int v3), (6, .long v2), (5, .int v1), (4, .int (bI t1)), (0, .ref 45), (1, .int a1), (2, .int a2), (3, .int a3)] d_MC_readReal_52 (by decide) rfl ?_
    refine wi_iload hC 3 d_MC_readReal_54 rfl ?_
    refine wi_iload hC 1 d_MC_readReal_56 rfl ?_
    refine wi_icmp_ne hC 144 d_MC_readReal_58 (by decide) (fun h2 => ?_) (fun h2 => ?_)
    · skip
      refine wi_iload hC 3 d_MC_readReal_144 rfl ?_
      have B1 : f_MC_readReal τ a1 a2 a3 = f_MC_readReal_b166 τ a1 a2 t1 v1 v2 v4 → WS p l e { frames := 2, cells := 0, slots := 0, locals := 46 } s m args below meth c Q E 11 166 [(9, .int v4), (8, .int v3), (6, .long v2), (5, .int v1), (4, .int (bI t1)), (0, .ref 45), (1, .int a1), (2, .int a2), (3, .int a3)] [] (σ, τ, q) := by
        intro hB1
        refine wi_iload hC 3 d_MC_readReal_166 rfl ?_
        obtain ⟨Tt2, eTt2⟩ : ∃ y : St, y = (
                if v1 = 0 then
                  let s2 : St := f_MC_become τ a1 t1 v2 ((2 - v4) - a2)
                  s2
                else
                  let s1 : St := f_MC_become τ a1 t1 (v2 + (jlshl 1 (a2 - 1))) (((v1 - v4) - a2) + 1)
                  s1) := ⟨_, rfl⟩
        have Jt2 : ∀ (t2 : St), Tt2 = t2 → WS p l e { frames := 2, cells := 0, slots := 0, locals := 46 } s m args below meth c Q E 11 213 [(9, .int v4), (8, .int v3), (6, .long v2), (5, .int v1), (4, .int (bI t1)), (0, .ref 45), (1, .int a1), (2, .int a2), (3, .int a3)] [] (σ, t2, q) := by
          intro t2  e_t2
          rw [eTt2] at e_t2
          refine wi_iload hC 3 d_MC_readReal_213 rfl ?_
          obtain ⟨Tt3, eTt3⟩ : ∃ y : Int32, y = (
                  if v1 = 0 then
                    if v2 = 0 then
                      0
                    else
                      2
                  else
                    0) := ⟨_, rfl⟩
          have Jt3 : ∀ (t3 : Int32), Tt3 = t3 → WS p l e { frames := 2, cells := 0, slots := 0, locals := 46 } s m args below meth c Q E 11 230 [(9, .int v4), (8, .int v3), (6, .long v2), (5, .int v1), (4, .int (bI t1)), (0, .ref 45), (1, .int a1), (2, .int a2), (3, .int a3)] [.int t3] (σ, t2, q) := by
            intro t3  e_t3
            rw [eTt3] at e_t3
            have hf : f_MC_readReal τ a1 a2 a3 = (t3, t2) := by subst e_t3; subst e_t2; exact hB1
            exact wi_iret hC hr hk d_MC_readReal_230 (congrArg (fun z => some (Value.int z.1)) hf) (congrArg (fun z => (σ, z.2, q)) hf).symm hQ
          refine wi_if_ne hC 229 d_MC_readReal_215 (by decide) (fun h7 => ?_) (fun h7 => ?_)
          · skip
            refine wi_iconst hC 0 (by decide) d_MC_readReal_229 ?_
            exact Jt3 0 (by exact (Eq.trans eTt3 (if_neg h7)))
          · skip
            refine wi_lload hC 2 d_MC_readReal_218 rfl ?_
            refine wi_lconst hC 0 (by decide) d_MC_readReal_220 ?_
            refine wi_lcmp_eq hC 229 d_MC_readReal_221 d_MC_readReal_222 (by decide) (fun h8 => ?_) (fun h8 => ?_)
            · skip
              refine wi_iconst hC 0 (by decide) d_MC_readReal_229 ?_
              exact Jt3 0 (by exact (Eq.trans eTt3 (Eq.trans (if_pos h7) (if_pos h8))))
            · skip
              refine wi_iconst hC 2 (by decide) d_MC_readReal_225 ?_
              refine wi_goto hC 230 d_MC_readReal_226 (by decide) ?_
              exact Jt3 2 (by exact (Eq.trans eTt3 (Eq.trans (if_pos h7) (if_neg h8))))
        refine wi_if_ne hC 189 d_MC_readReal_168 (by decide) (fun h6 => ?_) (fun h6 => ?_)
        · skip
          refine wi_aload_n hC 5 d_MC_readReal_189 rfl rfl ?_
          refine wi_iload_n hC 6 d_MC_readReal_190 rfl rfl ?_
          refine wi_iload hC 4 d_MC_readReal_191 rfl ?_
          refine wi_lload hC 2 d_MC_readReal_193 rfl ?_
          refine wi_lconst hC 1 (by decide) d_MC_readReal_195 ?_
          refine wi_iload_n hC 7 d_MC_readReal_196 rfl rfl ?_
          refine wi_iconst hC 1 (by decide) d_MC_readReal_197 ?_
          refine wi_isub hC d_MC_readReal_198 ?_
          refine wi_lshl hC d_MC_readReal_199 ?_
          refine wi_ladd hC d_MC_readReal_200 ?_
          refine wi_iload hC 3 d_MC_readReal_201 rfl ?_
          refine wi_iload hC 0 d_MC_readReal_203 rfl ?_
          refine wi_isub hC d_MC_readReal_205 ?_
          refine wi_iload_n hC 7 d_MC_readReal_206 rfl rfl ?_
          refine wi_isub hC d_MC_readReal_207 ?_
          refine wi_iconst hC 1 (by decide) d_MC_readReal_208 ?_
          refine wi_iadd hC d_MC_readReal_209 ?_
          refine k_MC_become hC t1 rfl hp wd_586 (by decide) (Nat.le_of_ble_eq_true rfl) d_MC_readReal_210 ?_
          refine wi_nmM (fun s1 e_s1 => ?_)
          exact Jt2 s1 (by subst e_s1; exact (Eq.trans eTt2 (if_neg h6)))
        · skip
          refine wi_aload_n hC 5 d_MC_readReal_171 rfl rfl ?_
          refine wi_iload_n hC 6 d_MC_readReal_172 rfl rfl ?_
          refine wi_iload hC 4 d_MC_readReal_173 rfl ?_
          refine wi_lload hC 2 d_MC_readReal_175 rfl ?_
          refine wi_iconst hC 2 (by decide) d_MC_readReal_177 ?_
          refine wi_iload hC 0 d_MC_readReal_178 rfl ?_
          refine wi_isub hC d_MC_readReal_180 ?_
          refine wi_iload_n hC 7 d_MC_readReal_181 rfl rfl ?_
          refine wi_isub hC d_MC_readReal_182 ?_
          refine k_MC_become hC t1 rfl hp wd_586 (by decide) (Nat.le_of_ble_eq_true rfl) d_MC_readReal_183 ?_
          refine wi_nmM (fun s2 e_s2 => ?_)
          refine wi_goto hC 213 d_MC_readReal_186 (by decide) ?_
          exact Jt2 s2 (by subst e_s2; exact (Eq.trans eTt2 (if_pos h6)))
      refine wi_if_ne hC 166 d_MC_readReal_146 (by decide) (fun h3 => ?_) (fun h3 => ?_)
      · skip
        exact B1   (by subst e_v4; subst e_v3; subst e_v2; subst e_v1; subst e_t1; exact (Eq.trans (if_neg h2) (if_neg h3)))
      · skip
        refine wi_lload hC 2 d_MC_readReal_149 rfl ?_
        refine wi_lconst hC 0 (by decide) d_MC_readReal_151 ?_
        refine wi_lcmp_eq hC 166 d_MC_readReal_152 d_MC_readReal_153 (by decide) (fun h4 => ?_) (fun h4 => ?_)
        · skip
          exact B1   (by subst e_v4; subst e_v3; subst e_v2; subst e_v1; subst e_t1; exact (Eq.trans (if_neg h2) (Eq.trans (if_pos h3) (if_pos h4))))
        · skip
          refine wi_aload_n hC 5 d_MC_readReal_156 rfl rfl ?_
          refine wi_iconst hC 2 (by decide) d_MC_readReal_157 ?_
          refine k_MC_masked hC (by decide) wd_585 (by decide) (Nat.le_of_ble_eq_true rfl) d_MC_readReal_158 ?_
          refine wi_z_ne (b := (f_MC_masked τ 2)) hC 166 d_MC_readReal_161 (by decide) (fun h5 => ?_) (fun h5 => ?_)
          · skip
            exact B1   (by subst e_v4; subst e_v3; subst e_v2; subst e_v1; subst e_t1; exact (Eq.trans (if_neg h2) (Eq.trans (if_pos h3) (Eq.trans (if_neg h4) (if_pos h5)))))
          · skip
            refine wi_iconst hC 2 (by decide) d_MC_readReal_164 ?_
            have hf : f_MC_readReal τ a1 a2 a3 = (2, τ) := by subst e_v4; subst e_v3; subst e_v2; subst e_v1; subst e_t1; exact (Eq.trans (if_neg h2) (Eq.trans (if_pos h3) (Eq.trans (if_neg h4) (if_neg h5))))
            exact wi_iret hC hr hk d_MC_readReal_165 (congrArg (fun z => some (Value.int z.1)) hf) (congrArg (fun z => (σ, z.2, q)) hf).symm hQ
    · skip
      refine wi_aload_n hC 5 d_MC_readReal_61 rfl rfl ?_
      refine wg_MC_top hC wd_578 d_MC_readReal_62 ?_
      refine wi_iload_n hC 6 d_MC_readReal_65 rfl rfl ?_
      refine wi_iload hC 4 d_MC_readReal_66 rfl ?_
      obtain ⟨Tt4, eTt4⟩ : ∃ y : Int32, y = (
              if t1 = true then
                32768
              else
                0) := ⟨_, rfl⟩
      have Jt4 : ∀ (t4 : Int32), Tt4 = t4 → WS p l e { frames := 2, cells := 0, slots := 0, locals := 46 } s m args below meth c Q E 11 77 [(9, .int v4), (8, .int v3), (6, .long v2), (5, .int v1), (4, .int (bI t1)), (0, .ref 45), (1, .int a1), (2, .int a2), (3, .int a3)] [.int t4, .int a1, .ref 46] (σ, τ, q) := by
        intro t4  e_t4
        rw [eTt4] at e_t4
        refine wi_sipush hC 32767 (by decide) d_MC_readReal_77 ?_
        refine wi_iadd hC d_MC_readReal_80 ?_
        refine wa_st46 hC hp d_MC_readReal_81 ?_
        refine wi_nmM (fun s3 e_s3 => ?_)
        refine wi_aload_n hC 5 d_MC_readReal_82 rfl rfl ?_
        refine wg_MC_fraction hC wd_580 d_MC_readReal_83 ?_
        refine wi_iload_n hC 6 d_MC_readReal_86 rfl rfl ?_
        refine wi_lconst hC 0 (by decide) d_MC_readReal_87 ?_
        refine wa_st47 hC hp d_MC_readReal_88 ?_
        refine wi_nmM (fun s4 e_s4 => ?_)
        refine wi_iconst hC 0 (by decide) d_MC_readReal_89 ?_
        refine wi_istore hC [(10, .int 0), (9, .int v4), (8, .int v3), (6, .long v2), (5, .int v1), (4, .int (bI t1)), (0, .ref 45), (1, .int a1), (2, .int a2), (3, .int a3)] d_MC_readReal_90 (by decide) rfl ?_
        refine wi_loop ((b_MC_readReal_92 a1 a2)) (fun t6 => 0 ≤ (t6.1).toInt) (fun t6 => [(10, .int t6.1), (9, .int v4), (8, .int v3), (6, .long v2), (5, .int v1), (4, .int (bI t1)), (0, .ref 45), (1, .int a1), (2, .int a2), (3, .int a3)]) (fun t6 => (σ, t6.2, q)) 130 ?_ (up_inv (b := (b_MC_readReal_92 a1 a2)) (fun t => t.1) (a2 - 1) 0 (st_b_MC_readReal_92 a1 a2)) (upf (a2 - 1) 0) (0, s4) (show (0 : Int) ≤ (0 : Int32).toInt by decide) (up_halt (b := (b_MC_readReal_92 a1 a2)) (fun t => t.1) (a2 - 1) (st_b_MC_readReal_92 a1 a2) (0, s4)) ?_
        · intro t6 hi_t6 hc_t6 hx_t6
          refine wi_iload hC 0 d_MC_readReal_92 rfl ?_
          refine wi_iload_n hC 8 d_MC_readReal_94 rfl rfl ?_
          refine wi_iconst hC 1 (by decide) d_MC_readReal_95 ?_
          refine wi_isub hC d_MC_readReal_96 ?_
          refine wi_icmp_ge hC 130 d_MC_readReal_97 (by decide) (fun h10 => ?_) (fun h10 => ?_)
          · skip
            exact hx_t6 (t6.1, t6.2) (by exact (if_pos h10))
          · skip
            refine wi_aload_n hC 6 d_MC_readReal_100 rfl rfl ?_
            refine wg_MC_fraction hC wd_580 d_MC_readReal_101 ?_
            refine wi_iload_n hC 7 d_MC_readReal_104 rfl rfl ?_
            refine wi_dup2_11 hC rfl rfl d_MC_readReal_105 ?_
            refine wa_ld47 hC hp d_MC_readReal_106 ?_
            refine wi_aload_n hC 6 d_MC_readReal_107 rfl rfl ?_
            refine wi_iload hC 0 d_MC_readReal_108 rfl ?_
            refine k_MC_bit hC (pk_k hs hi_t6 h10) wd_571 (by decide) (Nat.le_of_ble_eq_true rfl) d_MC_readReal_110 ?_
            refine wi_i2l hC d_MC_readReal_113 ?_
            refine wi_bipush hC 64 (by decide) d_MC_readReal_114 ?_
            refine wi_iload_n hC 8 d_MC_readReal_116 rfl rfl ?_
            refine wi_isub hC d_MC_readReal_117 ?_
            refine wi_iload hC 0 d_MC_readReal_118 rfl ?_
            refine wi_iadd hC d_MC_readReal_120 ?_
            refine wi_lshl hC d_MC_readReal_121 ?_
            refine wi_ladd hC d_MC_readReal_122 ?_
            refine wa_st47 hC hp d_MC_readReal_123 ?_
            refine wi_nmM (fun s5 e_s5 => ?_)
            obtain ⟨v5, e_v5⟩ : ∃ y : Int32, t6.1 + 1 = y := ⟨_, rfl⟩
            refine wi_iinc hC 0 v5 [(10, .int v5), (9, .int v4), (8, .int v3), (6, .long v2), (5, .int v1), (4, .int (bI t1)), (0, .ref 45), (1, .int a1), (2, .int a2), (3, .int a3)] d_MC_readReal_124 rfl (by rw [← e_v5]; rfl) (by decide) rfl ?_
            refine wi_goto hC 92 d_MC_readReal_127 (by decide) ?_
            exact hc_t6 (v5, s5) (by subst e_v5; subst e_s5; exact (if_neg h10))
        obtain ⟨t5, e_t5⟩ : ∃ y : Int32 × St, lpn ((b_MC_readReal_92 a1 a2)) (upf (a2 - 1) 0) (0, s4) = y := ⟨_, rfl⟩
        rw [e_t5]
        refine wi_aload_n hC 6 d_MC_readReal_130 rfl rfl ?_
        refine wg_MC_fraction hC wd_580 d_MC_readReal_131 ?_
        refine wi_iload_n hC 7 d_MC_readReal_134 rfl rfl ?_
        refine wi_dup2_11 hC rfl rfl d_MC_readReal_135 ?_
        refine wa_ld47 hC hp d_MC_readReal_136 ?_
        refine wi_ldc2 hC wd_587 d_MC_readReal_137 ?_
        refine wi_ladd hC d_MC_readReal_140 ?_
        refine wa_st47 hC hp d_MC_readReal_141 ?_
        refine wi_nmM (fun s6 e_s6 => ?_)
        refine wi_iconst hC 0 (by decide) d_MC_readReal_142 ?_
        have hf : f_MC_readReal τ a1 a2 a3 = (0, s6) := by subst e_s6; subst e_t5; subst e_s4; subst e_s3; subst e_t4; subst e_v4; subst e_v3; subst e_v2; subst e_v1; subst e_t1; exact (if_pos h2)
        exact wi_iret hC hr hk d_MC_readReal_143 (congrArg (fun z => some (Value.int z.1)) hf) (congrArg (fun z => (σ, z.2, q)) hf).symm hQ
      refine wi_z_eq (b := t1) hC 76 d_MC_readReal_68 (by decide) (fun h9 => ?_) (fun h9 => ?_)
      · skip
        refine wi_iconst hC 0 (by decide) d_MC_readReal_76 ?_
        exact Jt4 0 (by exact (Eq.trans eTt4 (if_neg h9)))
      · skip
        refine wi_ldc hC wd_579 d_MC_readReal_71 ?_
        refine wi_goto hC 77 d_MC_readReal_73 (by decide) ?_
        exact Jt4 32768 (by exact (Eq.trans eTt4 (if_pos h9)))
  refine wi_icmp_ne hC 17 d_MC_readReal_10 (by decide) (fun h1 => ?_) (fun h1 => ?_)
  · skip
    refine wi_iconst hC 0 (by decide) d_MC_readReal_17 ?_
    exact Jt1 false (by exact (Eq.trans eTt1 (if_neg h1)))
  · skip
    refine wi_iconst hC 1 (by decide) d_MC_readReal_13 ?_
    refine wi_goto hC 18 d_MC_readReal_14 (by decide) ?_
    exact Jt1 true (by exact (Eq.trans eTt1 (if_pos h1)))
theorem k_MC_readReal {p : Program} {l : Launch} {e : Env} {R : Room} {s : State} {m : MethodId} {args : Array Value} {below : List Frame} {meth : Method} {c : Code} {Q : State → Prop} {E : Ev} {nL pc index : Nat} {lv : List (Nat × Value)} {rest : List Value} {cc : ByteArray} {own : String} {σ τ : St} {q : Int64} {a1 : Int32} {a2 : Int32} {a3 : Int32} (hC : Cx p s m args c cc nL own E)  (hp : vp_in a1 8) (hs : (a2 = 24 ∧ a3 = 8) ∨ (a2 = 53 ∧ a3 = 11)) (hl : Cond.methodLink own index y_MC_readReal ∈ WL) (hR : 2 + 1 ≤ R.frames ∧ 8 + (11 + 11) + 46 ≤ R.locals) (hs8 : (rest.map fun v => v.category).sum ≤ 8) (d : decode cc pc = .ok (.invokevirtual index, 3)) (k : WS p l e R s m args below meth c Q E nL (pc + 3) lv ((.int ((f_MC_readReal τ a1 a2 a3).1)) :: rest) (σ, (f_MC_readReal τ a1 a2 a3).2, q)) : WS p l e R s m args below meth c Q E nL pc lv (.int a3 :: .int a2 :: .int a1 :: .ref 45 :: rest) (σ, τ, q) := by
  exact wi_callV hC (n := 3) (vs := [.int a1, .int a2, .int a3]) (rest := rest) 45 13 (by decide) rfl rfl rfl (c_MC_readReal l E σ τ q a1 a2 a3 hp hs) (by decide +kernel) wd_588 wd_558 wd_589 wd_590 ⟨rfl, rfl⟩ rfl rfl hl hR hs8 d k
set_option maxRecDepth 100000 in
set_option maxHeartbeats 400000 in
theorem c_MC_read (l : Launch) (E : Ev) (σ τ : St) (q : Int64) (a1 : Int32) (a2 : Int32) (hp : vp_in a2 8) : MF l y_MC_read prog_13_method_16_code 8 (some .int) { frames := 3, cells := 0, slots := 0, locals := 76 } E [.ref 45, .int a1, .int a2] (σ, τ, q) (some (.int ((f_MC_read τ a1 a2).1))) (σ, (f_MC_read τ a1 a2).2, q) := by
  refine MF_intro (lv0 := [(0, .ref 45), (1, .int a1), (2, .int a2)]) (by decide) wd_594 (Nat.le_of_ble_eq_true rfl) rfl ?_
  intro p e s m args below meth c Q hC hr hk hQ
  replace hC : Cx p s m args c prog_13_method_16_code 8 "PartnerStackModel$RealConversionsModel" E := hC
  refine wi_aload_n hC 0 d_MC_read_0 rfl rfl ?_
  refine wi_iload_n hC 2 d_MC_read_1 rfl rfl ?_
  refine k_MC_none hC  wd_591 (by decide) (Nat.le_of_ble_eq_true rfl) d_MC_read_2 ?_
  obtain ⟨Tt1, eTt1⟩ : ∃ y : Int32, y = (
          if f_MC_none a2 = true then
            1
          else
            if a1 < 0 then
              2
            else
              if a1 ≤ 6 then
                0
              else
                2) := ⟨_, rfl⟩
  have Jt1 : ∀ (t1 : Int32), Tt1 = t1 → WS p l e { frames := 3, cells := 0, slots := 0, locals := 76 } s m args below meth c Q E 8 27 [(0, .ref 45), (1, .int a1), (2, .int a2)] [.int t1, .ref 45] (σ, τ, q) := by
    intro t1  e_t1
    rw [eTt1] at e_t1
    refine wp_MC_code hC wd_555 d_MC_read_27 ?_
    refine wi_nmM (fun s1 e_s1 => ?_)
    refine wi_aload_n hC 0 d_MC_read_30 rfl rfl ?_
    refine wg_MC_code hC wd_555 d_MC_read_31 ?_
    refine wi_if_le hC 39 d_MC_read_34 (by decide) (fun h4 => ?_) (fun h4 => ?_)
    · skip
      refine wi_iload_n hC 1 d_MC_read_39 rfl rfl ?_
      refine wi_iconst hC 3 (by decide) d_MC_read_40 ?_
      refine wi_icmp_ne hC 54 d_MC_read_41 (by decide) (fun h5 => ?_) (fun h5 => ?_)
      · skip
        refine wi_iload_n hC 1 d_MC_read_54 rfl rfl ?_
        refine wi_iconst hC 4 (by decide) d_MC_read_55 ?_
        refine wi_icmp_ne hC 69 d_MC_read_56 (by decide) (fun h6 => ?_) (fun h6 => ?_)
        · skip
          refine wi_iload_n hC 1 d_MC_read_69 rfl rfl ?_
          refine wi_bipush hC 6 (by decide) d_MC_read_70 ?_
          refine wi_icmp_ne hC 115 d_MC_read_72 (by decide) (fun h7 => ?_) (fun h7 => ?_)
          · skip
            refine wi_iload_n hC 1 d_MC_read_115 rfl rfl ?_
            refine wi_iconst hC 5 (by decide) d_MC_read_116 ?_
            refine wi_icmp_ne hC 179 d_MC_read_117 (by decide) (fun h8 => ?_) (fun h8 => ?_)
            · skip
              refine wi_iload_n hC 1 d_MC_read_179 rfl rfl ?_
              obtain ⟨Tt2, eTt2⟩ : ∃ y : Int32, y = (
                      if a1 = 0 then
                        16
                      else
                        if a1 = 1 then
                          32
                        else
                          64) := ⟨_, rfl⟩
              have Jt2 : ∀ (t2 : Int32), Tt2 = t2 → WS p l e { frames := 3, cells := 0, slots := 0, locals := 76 } s m args below meth c Q E 8 200 [(0, .ref 45), (1, .int a1), (2, .int a2)] [.int t2] (σ, s1, q) := by
                intro t2  e_t2
                rw [eTt2] at e_t2
                refine wi_istore_n hC [(3, .int t2), (0, .ref 45), (1, .int a1), (2, .int a2)] d_MC_read_200 rfl (by decide) rfl ?_
                refine wi_aload_n hC 1 d_MC_read_201 rfl rfl ?_
                refine wi_iload_n hC 0 d_MC_read_202 rfl rfl ?_
                refine wi_iconst hC 1 (by decide) d_MC_read_203 ?_
                refine wi_isub hC d_MC_read_204 ?_
                refine k_MC_bit hC (by rw [← e_t2]; (repeat' split) <;> (unfold vp_in; decide)) wd_571 (by decide) (Nat.le_of_ble_eq_true rfl) d_MC_read_205 ?_
                refine wi_iconst hC 1 (by decide) d_MC_read_208 ?_
                obtain ⟨Tt3, eTt3⟩ : ∃ y : Bool, y = (
                        if f_MC_bit s1 (t2 - 1) = 1 then
                          true
                        else
                          false) := ⟨_, rfl⟩
                have Jt3 : ∀ (t3 : Bool), Tt3 = t3 → WS p l e { frames := 3, cells := 0, slots := 0, locals := 76 } s m args below meth c Q E 8 217 [(3, .int t2), (0, .ref 45), (1, .int a1), (2, .int a2)] [.int (bI t3)] (σ, s1, q) := by
                  intro t3  e_t3
                  rw [eTt3] at e_t3
                  refine wi_istore hC [(4, .int (bI t3)), (3, .int t2), (0, .ref 45), (1, .int a1), (2, .int a2)] d_MC_read_217 (by decide) rfl ?_
                  refine wi_lconst hC 0 (by decide) d_MC_read_219 ?_
                  refine wi_lstore hC [(5, .long 0), (4, .int (bI t3)), (3, .int t2), (0, .ref 45), (1, .int a1), (2, .int a2)] d_MC_read_220 (by decide) rfl ?_
                  refine wi_iload_n hC 2 d_MC_read_222 rfl rfl ?_
                  refine wi_iconst hC 1 (by decide) d_MC_read_223 ?_
                  refine wi_isub hC d_MC_read_224 ?_
                  refine wi_nmI (fun v1 e_v1 => ?_)
                  refine wi_istore hC [(7, .int v1), (5, .long 0), (4, .int (bI t3)), (3, .int t2), (0, .ref 45), (1, .int a1), (2, .int a2)] d_MC_read_225 (by decide) rfl ?_
                  refine wi_loop ((b_MC_read_227 s1 t3)) (fun t5 => (t5.1).toInt ≤ 63) (fun t5 => [(7, .int t5.1), (5, .long t5.2), (4, .int (bI t3)), (3, .int t2), (0, .ref 45), (1, .int a1), (2, .int a2)]) (fun t5 => (σ, s1, q)) 270 ?_ (dn_inv (b := (b_MC_read_227 s1 t3)) (fun t => t.1) 63 (st_b_MC_read_227 s1 t3)) (dnf v1) (v1, 0) (by show v1.toInt ≤ 63; rw [← e_v1, ← e_t2]; (repeat' split) <;> decide) (dn_halt (b := (b_MC_read_227 s1 t3)) (fun t => t.1) (st_b_MC_read_227 s1 t3) (v1, 0)) ?_
                  · intro t5 hi_t5 hc_t5 hx_t5
                    refine wi_iload hC 0 d_MC_read_227 rfl ?_
                    refine wi_if_lt hC 270 d_MC_read_229 (by decide) (fun h12 => ?_) (fun h12 => ?_)
                    · skip
                      exact hx_t5 (t5.1, t5.2) (by exact (if_pos h12))
                    · skip
                      refine wi_ldc2 hC wd_570 d_MC_read_232 ?_
                      refine wi_lload hC 1 d_MC_read_235 rfl ?_
                      refine wi_lmul hC d_MC_read_237 ?_
                      refine wi_iload hC 2 d_MC_read_238 rfl ?_
                      obtain ⟨Tt6, eTt6⟩ : ∃ y : Int32, y = (
                              if t3 = true then
                                1 - (f_MC_bit s1 t5.1)
                              else
                                f_MC_bit s1 t5.1) := ⟨_, rfl⟩
                      have Jt6 : ∀ (t6 : Int32), Tt6 = t6 → WS p l e { frames := 3, cells := 0, slots := 0, locals := 76 } s m args below meth c Q E 8 260 [(7, .int t5.1), (5, .long t5.2), (4, .int (bI t3)), (3, .int t2), (0, .ref 45), (1, .int a1), (2, .int a2)] [.int t6, .long (2 * t5.2)] (σ, s1, q) := by
                        intro t6  e_t6
                        rw [eTt6] at e_t6
                        refine wi_i2l hC d_MC_read_260 ?_
                        refine wi_ladd hC d_MC_read_261 ?_
                        refine wi_nmJ (fun v2 e_v2 => ?_)
                        refine wi_lstore hC [(5, .long v2), (7, .int t5.1), (4, .int (bI t3)), (3, .int t2), (0, .ref 45), (1, .int a1), (2, .int a2)] d_MC_read_262 (by decide) rfl ?_
                        obtain ⟨v3, e_v3⟩ : ∃ y : Int32, t5.1 + (-1) = y := ⟨_, rfl⟩
                        refine wi_iinc hC 1 v3 [(7, .int v3), (5, .long v2), (4, .int (bI t3)), (3, .int t2), (0, .ref 45), (1, .int a1), (2, .int a2)] d_MC_read_264 rfl (by rw [← e_v3]; rfl) (by decide) rfl ?_
                        refine wi_goto hC 227 d_MC_read_267 (by decide) ?_
                        exact hc_t5 (v3, v2) (by subst e_v3; subst e_v2; subst e_t6; exact (if_neg h12))
                      refine wi_z_eq (b := t3) hC 254 d_MC_read_240 (by decide) (fun h13 => ?_) (fun h13 => ?_)
                      · skip
                        refine wi_aload_n hC 4 d_MC_read_254 rfl rfl ?_
                        refine wi_iload hC 0 d_MC_read_255 rfl ?_
                        refine k_MC_bit hC (vin_of (lo_n h12) (hi_le hi_t5 (by decide))) wd_571 (by decide) (Nat.le_of_ble_eq_true rfl) d_MC_read_257 ?_
                        exact Jt6 (f_MC_bit s1 t5.1) (by exact (Eq.trans eTt6 (if_neg h13)))
                      · skip
                        refine wi_iconst hC 1 (by decide) d_MC_read_243 ?_
                        refine wi_aload_n hC 4 d_MC_read_244 rfl rfl ?_
                        refine wi_iload hC 0 d_MC_read_245 rfl ?_
                        refine k_MC_bit hC (vin_of (lo_n h12) (hi_le hi_t5 (by decide))) wd_571 (by decide) (Nat.le_of_ble_eq_true rfl) d_MC_read_247 ?_
                        refine wi_isub hC d_MC_read_250 ?_
                        refine wi_goto hC 260 d_MC_read_251 (by decide) ?_
                        exact Jt6 (1 - (f_MC_bit s1 t5.1)) (by exact (Eq.trans eTt6 (if_pos h13)))
                  obtain ⟨t4, e_t4⟩ : ∃ y : Int32 × Int64, lpn ((b_MC_read_227 s1 t3)) (dnf v1) (v1, 0) = y := ⟨_, rfl⟩
                  rw [e_t4]
                  refine wi_aload_n hC 4 d_MC_read_270 rfl rfl ?_
                  refine wi_iload_n hC 6 d_MC_read_271 rfl rfl ?_
                  refine wi_iload hC 2 d_MC_read_272 rfl ?_
                  refine wi_iload hC 2 d_MC_read_274 rfl ?_
                  obtain ⟨Tt7, eTt7⟩ : ∃ y : Int64, y = (
                          if t3 = true then
                            t4.2 + 1
                          else
                            t4.2) := ⟨_, rfl⟩
                  have Jt7 : ∀ (t7 : Int64), Tt7 = t7 → WS p l e { frames := 3, cells := 0, slots := 0, locals := 76 } s m args below meth c Q E 8 288 [(7, .int t4.1), (5, .long t4.2), (4, .int (bI t3)), (3, .int t2), (0, .ref 45), (1, .int a1), (2, .int a2)] [.long t7, .int (bI t3), .int a2, .ref 45] (σ, s1, q) := by
                    intro t7  e_t7
                    rw [eTt7] at e_t7
                    refine wi_iconst hC 0 (by decide) d_MC_read_288 ?_
                    refine k_MC_become hC t3 rfl hp wd_586 (by decide) (Nat.le_of_ble_eq_true rfl) d_MC_read_289 ?_
                    refine wi_nmM (fun s2 e_s2 => ?_)
                    refine wi_iconst hC 0 (by decide) d_MC_read_292 ?_
                    have hf : f_MC_read τ a1 a2 = (0, s2) := by subst e_s2; subst e_t7; subst e_t4; subst e_v1; subst e_t3; subst e_t2; subst e_s1; subst e_t1; exact (Eq.trans (if_pos h4) (Eq.trans (if_neg h5) (Eq.trans (if_neg h6) (Eq.trans (if_neg h7) (if_neg h8)))))
                    exact wi_iret hC hr hk d_MC_read_293 (congrArg (fun z => some (Value.int z.1)) hf) (congrArg (fun z => (σ, z.2, q)) hf).symm hQ
                  refine wi_z_eq (b := t3) hC 286 d_MC_read_276 (by decide) (fun h14 => ?_) (fun h14 => ?_)
                  · skip
                    refine wi_lload hC 1 d_MC_read_286 rfl ?_
                    exact Jt7 t4.2 (by exact (Eq.trans eTt7 (if_neg h14)))
                  · skip
                    refine wi_lload hC 1 d_MC_read_279 rfl ?_
                    refine wi_lconst hC 1 (by decide) d_MC_read_281 ?_
                    refine wi_ladd hC d_MC_read_282 ?_
                    refine wi_goto hC 288 d_MC_read_283 (by decide) ?_
                    exact Jt7 (t4.2 + 1) (by exact (Eq.trans eTt7 (if_pos h14)))
                refine wi_icmp_ne hC 216 d_MC_read_209 (by decide) (fun h11 => ?_) (fun h11 => ?_)
                · skip
                  refine wi_iconst hC 0 (by decide) d_MC_read_216 ?_
                  exact Jt3 false (by exact (Eq.trans eTt3 (if_neg h11)))
                · skip
                  refine wi_iconst hC 1 (by decide) d_MC_read_212 ?_
                  refine wi_goto hC 217 d_MC_read_213 (by decide) ?_
                  exact Jt3 true (by exact (Eq.trans eTt3 (if_pos h11)))
              refine wi_if_ne hC 188 d_MC_read_180 (by decide) (fun h9 => ?_) (fun h9 => ?_)
              · skip
                refine wi_iload_n hC 1 d_MC_read_188 rfl rfl ?_
                refine wi_iconst hC 1 (by decide) d_MC_read_189 ?_
                refine wi_icmp_ne hC 198 d_MC_read_190 (by decide) (fun h10 => ?_) (fun h10 => ?_)
                · skip
                  refine wi_bipush hC 64 (by decide) d_MC_read_198 ?_
                  exact Jt2 64 (by exact (Eq.trans eTt2 (Eq.trans (if_neg h9) (if_neg h10))))
                · skip
                  refine wi_bipush hC 32 (by decide) d_MC_read_193 ?_
                  refine wi_goto hC 200 d_MC_read_195 (by decide) ?_
                  exact Jt2 32 (by exact (Eq.trans eTt2 (Eq.trans (if_neg h9) (if_pos h10))))
              · skip
                refine wi_bipush hC 16 (by decide) d_MC_read_183 ?_
                refine wi_goto hC 200 d_MC_read_185 (by decide) ?_
                exact Jt2 16 (by exact (Eq.trans eTt2 (if_pos h9)))
            · skip
              refine wi_lconst hC 0 (by decide) d_MC_read_120 ?_
              refine wi_lstore_n hC [(3, .long 0), (0, .ref 45), (1, .int a1), (2, .int a2)] d_MC_read_121 rfl (by decide) rfl ?_
              refine wi_bipush hC 17 (by decide) d_MC_read_122 ?_
              refine wi_istore hC [(5, .int 17), (3, .long 0), (0, .ref 45), (1, .int a1), (2, .int a2)] d_MC_read_124 (by decide) rfl ?_
              refine wi_loop ((b_MC_read_126 s1)) (fun t9 => (t9.1).toInt ≤ 17) (fun t9 => [(5, .int t9.1), (3, .long t9.2), (0, .ref 45), (1, .int a1), (2, .int a2)]) (fun t9 => (σ, s1, q)) 153 ?_ (dn_inv (b := (b_MC_read_126 s1)) (fun t => t.1) 17 (st_b_MC_read_126 s1)) (dnf 17) (17, 0) (show (17 : Int32).toInt ≤ 17 by decide) (dn_halt (b := (b_MC_read_126 s1)) (fun t => t.1) (st_b_MC_read_126 s1) (17, 0)) ?_
              · intro t9 hi_t9 hc_t9 hx_t9
                refine wi_iload hC 0 d_MC_read_126 rfl ?_
                refine wi_if_lt hC 153 d_MC_read_128 (by decide) (fun h15 => ?_) (fun h15 => ?_)
                · skip
                  exact hx_t9 (t9.1, t9.2) (by exact (if_pos h15))
                · skip
                  refine wi_ldc2 hC wd_592 d_MC_read_131 ?_
                  refine wi_lload_n hC 1 d_MC_read_134 rfl rfl ?_
                  refine wi_lmul hC d_MC_read_135 ?_
                  refine wi_aload_n hC 2 d_MC_read_136 rfl rfl ?_
                  refine wi_iconst hC 4 (by decide) d_MC_read_137 ?_
                  refine wi_iload hC 0 d_MC_read_138 rfl ?_
                  refine wi_imul hC d_MC_read_140 ?_
                  refine wi_iconst hC 4 (by decide) d_MC_read_141 ?_
                  refine k_MC_bits hC (k4 (lo_n h15) hi_t9) wd_584 (by decide) (Nat.le_of_ble_eq_true rfl) d_MC_read_142 ?_
                  refine wi_ladd hC d_MC_read_145 ?_
                  refine wi_nmJ (fun v4 e_v4 => ?_)
                  refine wi_lstore_n hC [(3, .long v4), (5, .int t9.1), (0, .ref 45), (1, .int a1), (2, .int a2)] d_MC_read_146 rfl (by decide) rfl ?_
                  obtain ⟨v5, e_v5⟩ : ∃ y : Int32, t9.1 + (-1) = y := ⟨_, rfl⟩
                  refine wi_iinc hC 1 v5 [(5, .int v5), (3, .long v4), (0, .ref 45), (1, .int a1), (2, .int a2)] d_MC_read_147 rfl (by rw [← e_v5]; rfl) (by decide) rfl ?_
                  refine wi_goto hC 126 d_MC_read_150 (by decide) ?_
                  exact hc_t9 (v5, v4) (by subst e_v5; subst e_v4; exact (if_neg h15))
              obtain ⟨t8, e_t8⟩ : ∃ y : Int32 × Int64, lpn ((b_MC_read_126 s1)) (dnf 17) (17, 0) = y := ⟨_, rfl⟩
              rw [e_t8]
              refine wi_aload_n hC 2 d_MC_read_153 rfl rfl ?_
              refine wi_iload_n hC 4 d_MC_read_154 rfl rfl ?_
              refine wi_aload_n hC 2 d_MC_read_155 rfl rfl ?_
              refine wg_MC_memory hC wd_561 d_MC_read_156 ?_
              refine wi_bipush hC 9 (by decide) d_MC_read_159 ?_
              refine wa_ld48 hC (by unfold vp_in; decide) d_MC_read_161 ?_
              refine wi_bipush hC 127 (by decide) d_MC_read_162 ?_
              obtain ⟨Tt10, eTt10⟩ : ∃ y : Bool, y = (
                      if (gI s1 114 (jat 9)) ≤ 127 then
                        false
                      else
                        true) := ⟨_, rfl⟩
              have Jt10 : ∀ (t10 : Bool), Tt10 = t10 → WS p l e { frames := 3, cells := 0, slots := 0, locals := 76 } s m args below meth c Q E 8 172 [(5, .int t8.1), (3, .long t8.2), (0, .ref 45), (1, .int a1), (2, .int a2)] [.int (bI t10), .int a2, .ref 45] (σ, s1, q) := by
                intro t10  e_t10
                rw [eTt10] at e_t10
                refine wi_lload_n hC 1 d_MC_read_172 rfl rfl ?_
                refine wi_iconst hC 0 (by decide) d_MC_read_173 ?_
                refine k_MC_become hC t10 rfl hp wd_586 (by decide) (Nat.le_of_ble_eq_true rfl) d_MC_read_174 ?_
                refine wi_nmM (fun s3 e_s3 => ?_)
                refine wi_iconst hC 0 (by decide) d_MC_read_177 ?_
                have hf : f_MC_read τ a1 a2 = (0, s3) := by subst e_s3; subst e_t10; subst e_t8; subst e_s1; subst e_t1; exact (Eq.trans (if_pos h4) (Eq.trans (if_neg h5) (Eq.trans (if_neg h6) (Eq.trans (if_neg h7) (if_pos h8)))))
                exact wi_iret hC hr hk d_MC_read_178 (congrArg (fun z => some (Value.int z.1)) hf) (congrArg (fun z => (σ, z.2, q)) hf).symm hQ
              refine wi_icmp_le hC 171 d_MC_read_164 (by decide) (fun h16 => ?_) (fun h16 => ?_)
              · skip
                refine wi_iconst hC 0 (by decide) d_MC_read_171 ?_
                exact Jt10 false (by exact (Eq.trans eTt10 (if_pos h16)))
              · skip
                refine wi_iconst hC 1 (by decide) d_MC_read_167 ?_
                refine wi_goto hC 172 d_MC_read_168 (by decide) ?_
                exact Jt10 true (by exact (Eq.trans eTt10 (if_neg h16)))
          · skip
            refine wi_aload_n hC 0 d_MC_read_75 rfl rfl ?_
            refine wg_MC_top hC wd_578 d_MC_read_76 ?_
            refine wi_iload_n hC 2 d_MC_read_79 rfl rfl ?_
            refine wi_aload_n hC 0 d_MC_read_80 rfl rfl ?_
            refine wg_MC_memory hC wd_561 d_MC_read_81 ?_
            refine wi_bipush hC 8 (by decide) d_MC_read_84 ?_
            refine wa_ld48 hC (by unfold vp_in; decide) d_MC_read_86 ?_
            refine wi_sipush hC 256 (by decide) d_MC_read_87 ?_
            refine wi_aload_n hC 0 d_MC_read_90 rfl rfl ?_
            refine wg_MC_memory hC wd_561 d_MC_read_91 ?_
            refine wi_bipush hC 9 (by decide) d_MC_read_94 ?_
            refine wa_ld48 hC (by unfold vp_in; decide) d_MC_read_96 ?_
            refine wi_imul hC d_MC_read_97 ?_
            refine wi_iadd hC d_MC_read_98 ?_
            refine wa_st46 hC hp d_MC_read_99 ?_
            refine wi_nmM (fun s4 e_s4 => ?_)
            refine wi_aload_n hC 0 d_MC_read_100 rfl rfl ?_
            refine wg_MC_fraction hC wd_580 d_MC_read_101 ?_
            refine wi_iload_n hC 2 d_MC_read_104 rfl rfl ?_
            refine wi_aload_n hC 0 d_MC_read_105 rfl rfl ?_
            refine wi_iconst hC 0 (by decide) d_MC_read_106 ?_
            refine wi_bipush hC 64 (by decide) d_MC_read_107 ?_
            refine k_MC_bits hC (by decide) wd_584 (by decide) (Nat.le_of_ble_eq_true rfl) d_MC_read_109 ?_
            refine wa_st47 hC hp d_MC_read_112 ?_
            refine wi_nmM (fun s5 e_s5 => ?_)
            refine wi_iconst hC 0 (by decide) d_MC_read_113 ?_
            have hf : f_MC_read τ a1 a2 = (0, s5) := by subst e_s5; subst e_s4; subst e_s1; subst e_t1; exact (Eq.trans (if_pos h4) (Eq.trans (if_neg h5) (Eq.trans (if_neg h6) (if_pos h7))))
            exact wi_iret hC hr hk d_MC_read_114 (congrArg (fun z => some (Value.int z.1)) hf) (congrArg (fun z => (σ, z.2, q)) hf).symm hQ
        · skip
          refine wi_aload_n hC 0 d_MC_read_59 rfl rfl ?_
          refine wi_iload_n hC 2 d_MC_read_60 rfl rfl ?_
          refine wi_bipush hC 53 (by decide) d_MC_read_61 ?_
          refine wi_bipush hC 11 (by decide) d_MC_read_63 ?_
          refine k_MC_readReal hC hp (by decide) wd_593 (by decide) (Nat.le_of_ble_eq_true rfl) d_MC_read_65 ?_
          obtain ⟨r1, e_r1⟩ : ∃ y : Int32 × St, f_MC_readReal s1 a2 53 11 = y := ⟨_, rfl⟩
          rw [e_r1]
          have hf : f_MC_read τ a1 a2 = (r1.1, r1.2) := by subst e_r1; subst e_s1; subst e_t1; exact (Eq.trans (if_pos h4) (Eq.trans (if_neg h5) (if_pos h6)))
          exact wi_iret hC hr hk d_MC_read_68 (congrArg (fun z => some (Value.int z.1)) hf) (congrArg (fun z => (σ, z.2, q)) hf).symm hQ
      · skip
        refine wi_aload_n hC 0 d_MC_read_44 rfl rfl ?_
        refine wi_iload_n hC 2 d_MC_read_45 rfl rfl ?_
        refine wi_bipush hC 24 (by decide) d_MC_read_46 ?_
        refine wi_bipush hC 8 (by decide) d_MC_read_48 ?_
        refine k_MC_readReal hC hp (by decide) wd_593 (by decide) (Nat.le_of_ble_eq_true rfl) d_MC_read_50 ?_
        obtain ⟨r2, e_r2⟩ : ∃ y : Int32 × St, f_MC_readReal s1 a2 24 8 = y := ⟨_, rfl⟩
        rw [e_r2]
        have hf : f_MC_read τ a1 a2 = (r2.1, r2.2) := by subst e_r2; subst e_s1; subst e_t1; exact (Eq.trans (if_pos h4) (if_pos h5))
        exact wi_iret hC hr hk d_MC_read_53 (congrArg (fun z => some (Value.int z.1)) hf) (congrArg (fun z => (σ, z.2, q)) hf).symm hQ
    · skip
      refine wi_iconst hC 0 (by decide) d_MC_read_37 ?_
      have hf : f_MC_read τ a1 a2 = (0, s1) := by subst e_s1; subst e_t1; exact (if_neg h4)
      exact wi_iret hC hr hk d_MC_read_38 (congrArg (fun z => some (Value.int z.1)) hf) (congrArg (fun z => (σ, z.2, q)) hf).symm hQ
  refine wi_z_eq (b := (f_MC_none a2)) hC 12 d_MC_read_5 (by decide) (fun h1 => ?_) (fun h1 => ?_)
  · skip
    refine wi_iload_n hC 1 d_MC_read_12 rfl rfl ?_
    refine wi_if_lt hC 22 d_MC_read_13 (by decide) (fun h2 => ?_) (fun h2 => ?_)
    · skip
      refine wi_iconst hC 2 (by decide) d_MC_read_22 ?_
      refine wi_goto hC 27 d_MC_read_23 (by decide) ?_
      exact Jt1 2 (by exact (Eq.trans eTt1 (Eq.trans (if_neg h1) (if_pos h2))))
    · skip
      refine wi_iload_n hC 1 d_MC_read_16 rfl rfl ?_
      refine wi_bipush hC 6 (by decide) d_MC_read_17 ?_
      refine wi_icmp_le hC 26 d_MC_read_19 (by decide) (fun h3 => ?_) (fun h3 => ?_)
      · skip
        refine wi_iconst hC 0 (by decide) d_MC_read_26 ?_
        exact Jt1 0 (by exact (Eq.trans eTt1 (Eq.trans (if_neg h1) (Eq.trans (if_neg h2) (if_pos h3)))))
      · skip
        refine wi_iconst hC 2 (by decide) d_MC_read_22 ?_
        refine wi_goto hC 27 d_MC_read_23 (by decide) ?_
        exact Jt1 2 (by exact (Eq.trans eTt1 (Eq.trans (if_neg h1) (Eq.trans (if_neg h2) (if_neg h3)))))
  · skip
    refine wi_iconst hC 1 (by decide) d_MC_read_8 ?_
    refine wi_goto hC 27 d_MC_read_9 (by decide) ?_
    exact Jt1 1 (by exact (Eq.trans eTt1 (if_pos h1)))
theorem k_MC_read {p : Program} {l : Launch} {e : Env} {R : Room} {s : State} {m : MethodId} {args : Array Value} {below : List Frame} {meth : Method} {c : Code} {Q : State → Prop} {E : Ev} {nL pc index : Nat} {lv : List (Nat × Value)} {rest : List Value} {cc : ByteArray} {own : String} {σ τ : St} {q : Int64} {a1 : Int32} {a2 : Int32} (hC : Cx p s m args c cc nL own E)  (hp : vp_in a2 8) (hl : Cond.methodLink own index y_MC_read ∈ WL) (hR : 3 + 1 ≤ R.frames ∧ 8 + (8 + 11) + 76 ≤ R.locals) (hs8 : (rest.map fun v => v.category).sum ≤ 8) (d : decode cc pc = .ok (.invokevirtual index, 3)) (k : WS p l e R s m args below meth c Q E nL (pc + 3) lv ((.int ((f_MC_read τ a1 a2).1)) :: rest) (σ, (f_MC_read τ a1 a2).2, q)) : WS p l e R s m args below meth c Q E nL pc lv (.int a2 :: .int a1 :: .ref 45 :: rest) (σ, τ, q) := by
  exact wi_callV hC (n := 2) (vs := [.int a1, .int a2]) (rest := rest) 45 13 (by decide) rfl rfl rfl (c_MC_read l E σ τ q a1 a2 hp) (by decide +kernel) wd_594 wd_558 wd_595 wd_596 ⟨rfl, rfl⟩ rfl rfl hl hR hs8 d k
set_option maxRecDepth 100000 in
set_option maxHeartbeats 400000 in
theorem c_MC_part (l : Launch) (E : Ev) (σ τ : St) (q : Int64) (a1 : Int32) (a2 : Int32) (hp : vp_in a1 8) : MF l y_MC_part prog_13_method_6_code 3 (some .int) { frames := 1, cells := 0, slots := 0, locals := 20 } E [.ref 45, .int a1, .int a2] (σ, τ, q) (some (.int ((f_MC_part τ a1 a2).1))) (σ, (f_MC_part τ a1 a2).2, q) := by
  refine MF_intro (lv0 := [(0, .ref 45), (1, .int a1), (2, .int a2)]) (by decide) wd_597 (Nat.le_of_ble_eq_true rfl) rfl ?_
  intro p e s m args below meth c Q hC hr hk hQ
  replace hC : Cx p s m args c prog_13_method_6_code 3 "PartnerStackModel$RealConversionsModel" E := hC
  refine wi_aload_n hC 0 d_MC_part_0 rfl rfl ?_
  refine wi_iload_n hC 1 d_MC_part_1 rfl rfl ?_
  refine k_MC_none hC  wd_591 (by decide) (Nat.le_of_ble_eq_true rfl) d_MC_part_2 ?_
  obtain ⟨Tt1, eTt1⟩ : ∃ y : Int32, y = (
          if f_MC_none a1 = true then
            1
          else
            if a2 < 0 then
              2
            else
              if a2 ≤ 2 then
                0
              else
                2) := ⟨_, rfl⟩
  have Jt1 : ∀ (t1 : Int32), Tt1 = t1 → WS p l e { frames := 1, cells := 0, slots := 0, locals := 20 } s m args below meth c Q E 3 26 [(0, .ref 45), (1, .int a1), (2, .int a2)] [.int t1, .ref 45] (σ, τ, q) := by
    intro t1  e_t1
    rw [eTt1] at e_t1
    refine wp_MC_code hC wd_555 d_MC_part_26 ?_
    refine wi_nmM (fun s1 e_s1 => ?_)
    refine wi_aload_n hC 0 d_MC_part_29 rfl rfl ?_
    refine wg_MC_code hC wd_555 d_MC_part_30 ?_
    refine wi_if_le hC 38 d_MC_part_33 (by decide) (fun h4 => ?_) (fun h4 => ?_)
    · skip
      refine wi_iload_n hC 2 d_MC_part_38 rfl rfl ?_
      obtain ⟨Tt2, eTt2⟩ : ∃ y : Int32, y = (
              if a2 = 0 then
                gI s1 112 (jat a1)
              else
                if a2 = 1 then
                  Int64.toInt32 (jlshr (gJ s1 113 (jat a1)) 32)
                else
                  Int64.toInt32 (gJ s1 113 (jat a1))) := ⟨_, rfl⟩
      have Jt2 : ∀ (t2 : Int32), Tt2 = t2 → WS p l e { frames := 1, cells := 0, slots := 0, locals := 20 } s m args below meth c Q E 3 76 [(0, .ref 45), (1, .int a1), (2, .int a2)] [.int t2] (σ, s1, q) := by
        intro t2  e_t2
        rw [eTt2] at e_t2
        have hf : f_MC_part τ a1 a2 = (t2, s1) := by subst e_t2; subst e_s1; subst e_t1; exact (if_pos h4)
        exact wi_iret hC hr hk d_MC_part_76 (congrArg (fun z => some (Value.int z.1)) hf) (congrArg (fun z => (σ, z.2, q)) hf).symm hQ
      refine wi_if_ne hC 51 d_MC_part_39 (by decide) (fun h5 => ?_) (fun h5 => ?_)
      · skip
        refine wi_iload_n hC 2 d_MC_part_51 rfl rfl ?_
        refine wi_iconst hC 1 (by decide) d_MC_part_52 ?_
        refine wi_icmp_ne hC 69 d_MC_part_53 (by decide) (fun h6 => ?_) (fun h6 => ?_)
        · skip
          refine wi_aload_n hC 0 d_MC_part_69 rfl rfl ?_
          refine wg_MC_fraction hC wd_580 d_MC_part_70 ?_
          refine wi_iload_n hC 1 d_MC_part_73 rfl rfl ?_
          refine wa_ld47 hC hp d_MC_part_74 ?_
          refine wi_l2i hC d_MC_part_75 ?_
          exact Jt2 (Int64.toInt32 (gJ s1 113 (jat a1))) (by exact (Eq.trans eTt2 (Eq.trans (if_neg h5) (if_neg h6))))
        · skip
          refine wi_aload_n hC 0 d_MC_part_56 rfl rfl ?_
          refine wg_MC_fraction hC wd_580 d_MC_part_57 ?_
          refine wi_iload_n hC 1 d_MC_part_60 rfl rfl ?_
          refine wa_ld47 hC hp d_MC_part_61 ?_
          refine wi_bipush hC 32 (by decide) d_MC_part_62 ?_
          refine wi_lshr hC d_MC_part_64 ?_
          refine wi_l2i hC d_MC_part_65 ?_
          refine wi_goto hC 76 d_MC_part_66 (by decide) ?_
          exact Jt2 (Int64.toInt32 (jlshr (gJ s1 113 (jat a1)) 32)) (by exact (Eq.trans eTt2 (Eq.trans (if_neg h5) (if_pos h6))))
      · skip
        refine wi_aload_n hC 0 d_MC_part_42 rfl rfl ?_
        refine wg_MC_top hC wd_578 d_MC_part_43 ?_
        refine wi_iload_n hC 1 d_MC_part_46 rfl rfl ?_
        refine wa_ld46 hC hp d_MC_part_47 ?_
        refine wi_goto hC 76 d_MC_part_48 (by decide) ?_
        exact Jt2 (gI s1 112 (jat a1)) (by exact (Eq.trans eTt2 (if_pos h5)))
    · skip
      refine wi_iconst hC 0 (by decide) d_MC_part_36 ?_
      have hf : f_MC_part τ a1 a2 = (0, s1) := by subst e_s1; subst e_t1; exact (if_neg h4)
      exact wi_iret hC hr hk d_MC_part_37 (congrArg (fun z => some (Value.int z.1)) hf) (congrArg (fun z => (σ, z.2, q)) hf).symm hQ
  refine wi_z_eq (b := (f_MC_none a1)) hC 12 d_MC_part_5 (by decide) (fun h1 => ?_) (fun h1 => ?_)
  · skip
    refine wi_iload_n hC 2 d_MC_part_12 rfl rfl ?_
    refine wi_if_lt hC 21 d_MC_part_13 (by decide) (fun h2 => ?_) (fun h2 => ?_)
    · skip
      refine wi_iconst hC 2 (by decide) d_MC_part_21 ?_
      refine wi_goto hC 26 d_MC_part_22 (by decide) ?_
      exact Jt1 2 (by exact (Eq.trans eTt1 (Eq.trans (if_neg h1) (if_pos h2))))
    · skip
      refine wi_iload_n hC 2 d_MC_part_16 rfl rfl ?_
      refine wi_iconst hC 2 (by decide) d_MC_part_17 ?_
      refine wi_icmp_le hC 25 d_MC_part_18 (by decide) (fun h3 => ?_) (fun h3 => ?_)
      · skip
        refine wi_iconst hC 0 (by decide) d_MC_part_25 ?_
        exact Jt1 0 (by exact (Eq.trans eTt1 (Eq.trans (if_neg h1) (Eq.trans (if_neg h2) (if_pos h3)))))
      · skip
        refine wi_iconst hC 2 (by decide) d_MC_part_21 ?_
        refine wi_goto hC 26 d_MC_part_22 (by decide) ?_
        exact Jt1 2 (by exact (Eq.trans eTt1 (Eq.trans (if_neg h1) (Eq.trans (if_neg h2) (if_neg h3)))))
  · skip
    refine wi_iconst hC 1 (by decide) d_MC_part_8 ?_
    refine wi_goto hC 26 d_MC_part_9 (by decide) ?_
    exact Jt1 1 (by exact (Eq.trans eTt1 (if_pos h1)))
theorem k_MC_part {p : Program} {l : Launch} {e : Env} {R : Room} {s : State} {m : MethodId} {args : Array Value} {below : List Frame} {meth : Method} {c : Code} {Q : State → Prop} {E : Ev} {nL pc index : Nat} {lv : List (Nat × Value)} {rest : List Value} {cc : ByteArray} {own : String} {σ τ : St} {q : Int64} {a1 : Int32} {a2 : Int32} (hC : Cx p s m args c cc nL own E)  (hp : vp_in a1 8) (hl : Cond.methodLink own index y_MC_part ∈ WL) (hR : 1 + 1 ≤ R.frames ∧ 8 + (3 + 11) + 20 ≤ R.locals) (hs8 : (rest.map fun v => v.category).sum ≤ 8) (d : decode cc pc = .ok (.invokevirtual index, 3)) (k : WS p l e R s m args below meth c Q E nL (pc + 3) lv ((.int ((f_MC_part τ a1 a2).1)) :: rest) (σ, (f_MC_part τ a1 a2).2, q)) : WS p l e R s m args below meth c Q E nL pc lv (.int a2 :: .int a1 :: .ref 45 :: rest) (σ, τ, q) := by
  exact wi_callV hC (n := 2) (vs := [.int a1, .int a2]) (rest := rest) 45 13 (by decide) rfl rfl rfl (c_MC_part l E σ τ q a1 a2 hp) (by decide +kernel) wd_597 wd_558 wd_598 wd_599 ⟨rfl, rfl⟩ rfl rfl hl hR hs8 d k
set_option maxRecDepth 100000 in
set_option maxHeartbeats 400000 in
theorem c_MC_set (l : Launch) (E : Ev) (σ τ : St) (q : Int64) (a1 : Int32) (a2 : Int32) (a3 : Int32) (a4 : Int32) (hp : vp_in a1 8) : MF l y_MC_set prog_13_method_5_code 5 none { frames := 1, cells := 0, slots := 0, locals := 20 } E [.ref 45, .int a1, .int a2, .int a3, .int a4] (σ, τ, q) none (σ, (f_MC_set τ a1 a2 a3 a4), q) := by
  refine MF_intro (lv0 := [(0, .ref 45), (1, .int a1), (2, .int a2), (3, .int a3), (4, .int a4)]) (by decide) wd_601 (Nat.le_of_ble_eq_true rfl) rfl ?_
  intro p e s m args below meth c Q hC hr hk hQ
  replace hC : Cx p s m args c prog_13_method_5_code 5 "PartnerStackModel$RealConversionsModel" E := hC
  refine wi_aload_n hC 0 d_MC_set_0 rfl rfl ?_
  refine wi_iload_n hC 1 d_MC_set_1 rfl rfl ?_
  refine k_MC_none hC  wd_591 (by decide) (Nat.le_of_ble_eq_true rfl) d_MC_set_2 ?_
  obtain ⟨Tt1, eTt1⟩ : ∃ y : Int32, y = (
          if f_MC_none a1 = true then
            1
          else
            if a2 < 0 then
              2
            else
              if a2 ≤ 65535 then
                0
              else
                2) := ⟨_, rfl⟩
  have Jt1 : ∀ (t1 : Int32), Tt1 = t1 → WS p l e { frames := 1, cells := 0, slots := 0, locals := 20 } s m args below meth c Q E 5 27 [(0, .ref 45), (1, .int a1), (2, .int a2), (3, .int a3), (4, .int a4)] [.int t1, .ref 45] (σ, τ, q) := by
    intro t1  e_t1
    rw [eTt1] at e_t1
    refine wp_MC_code hC wd_555 d_MC_set_27 ?_
    refine wi_nmM (fun s1 e_s1 => ?_)
    refine wi_aload_n hC 0 d_MC_set_30 rfl rfl ?_
    refine wg_MC_code hC wd_555 d_MC_set_31 ?_
    refine wi_if_le hC 38 d_MC_set_34 (by decide) (fun h4 => ?_) (fun h4 => ?_)
    · skip
      refine wi_aload_n hC 0 d_MC_set_38 rfl rfl ?_
      refine wg_MC_top hC wd_578 d_MC_set_39 ?_
      refine wi_iload_n hC 1 d_MC_set_42 rfl rfl ?_
      refine wi_iload_n hC 2 d_MC_set_43 rfl rfl ?_
      refine wa_st46 hC hp d_MC_set_44 ?_
      refine wi_nmM (fun s2 e_s2 => ?_)
      refine wi_aload_n hC 0 d_MC_set_45 rfl rfl ?_
      refine wg_MC_fraction hC wd_580 d_MC_set_46 ?_
      refine wi_iload_n hC 1 d_MC_set_49 rfl rfl ?_
      refine wi_iload_n hC 3 d_MC_set_50 rfl rfl ?_
      refine wi_i2l hC d_MC_set_51 ?_
      refine wi_bipush hC 32 (by decide) d_MC_set_52 ?_
      refine wi_lshl hC d_MC_set_54 ?_
      refine wi_iload hC 4 d_MC_set_55 rfl ?_
      refine wi_i2l hC d_MC_set_57 ?_
      refine wi_ldc2 hC wd_600 d_MC_set_58 ?_
      refine wi_land hC d_MC_set_61 ?_
      refine wi_lor hC d_MC_set_62 ?_
      refine wa_st47 hC hp d_MC_set_63 ?_
      refine wi_nmM (fun s3 e_s3 => ?_)
      have hf : f_MC_set τ a1 a2 a3 a4 = s3 := by subst e_s3; subst e_s2; subst e_s1; subst e_t1; exact (if_pos h4)
      exact wi_vret hC hr hk d_MC_set_64 rfl (congrArg (fun z => (σ, z, q)) hf).symm hQ
    · skip
      have hf : f_MC_set τ a1 a2 a3 a4 = s1 := by subst e_s1; subst e_t1; exact (if_neg h4)
      exact wi_vret hC hr hk d_MC_set_37 rfl (congrArg (fun z => (σ, z, q)) hf).symm hQ
  refine wi_z_eq (b := (f_MC_none a1)) hC 12 d_MC_set_5 (by decide) (fun h1 => ?_) (fun h1 => ?_)
  · skip
    refine wi_iload_n hC 2 d_MC_set_12 rfl rfl ?_
    refine wi_if_lt hC 22 d_MC_set_13 (by decide) (fun h2 => ?_) (fun h2 => ?_)
    · skip
      refine wi_iconst hC 2 (by decide) d_MC_set_22 ?_
      refine wi_goto hC 27 d_MC_set_23 (by decide) ?_
      exact Jt1 2 (by exact (Eq.trans eTt1 (Eq.trans (if_neg h1) (if_pos h2))))
    · skip
      refine wi_iload_n hC 2 d_MC_set_16 rfl rfl ?_
      refine wi_ldc hC wd_554 d_MC_set_17 ?_
      refine wi_icmp_le hC 26 d_MC_set_19 (by decide) (fun h3 => ?_) (fun h3 => ?_)
      · skip
        refine wi_iconst hC 0 (by decide) d_MC_set_26 ?_
        exact Jt1 0 (by exact (Eq.trans eTt1 (Eq.trans (if_neg h1) (Eq.trans (if_neg h2) (if_pos h3)))))
      · skip
        refine wi_iconst hC 2 (by decide) d_MC_set_22 ?_
        refine wi_goto hC 27 d_MC_set_23 (by decide) ?_
        exact Jt1 2 (by exact (Eq.trans eTt1 (Eq.trans (if_neg h1) (Eq.trans (if_neg h2) (if_neg h3)))))
  · skip
    refine wi_iconst hC 1 (by decide) d_MC_set_8 ?_
    refine wi_goto hC 27 d_MC_set_9 (by decide) ?_
    exact Jt1 1 (by exact (Eq.trans eTt1 (if_pos h1)))
theorem k_MC_set {p : Program} {l : Launch} {e : Env} {R : Room} {s : State} {m : MethodId} {args : Array Value} {below : List Frame} {meth : Method} {c : Code} {Q : State → Prop} {E : Ev} {nL pc index : Nat} {lv : List (Nat × Value)} {rest : List Value} {cc : ByteArray} {own : String} {σ τ : St} {q : Int64} {a1 : Int32} {a2 : Int32} {a3 : Int32} {a4 : Int32} (hC : Cx p s m args c cc nL own E)  (hp : vp_in a1 8) (hl : Cond.methodLink own index y_MC_set ∈ WL) (hR : 1 + 1 ≤ R.frames ∧ 8 + (5 + 11) + 20 ≤ R.locals) (hs8 : (rest.map fun v => v.category).sum ≤ 8) (d : decode cc pc = .ok (.invokevirtual index, 3)) (k : WS p l e R s m args below meth c Q E nL (pc + 3) lv rest (σ, (f_MC_set τ a1 a2 a3 a4), q)) : WS p l e R s m args below meth c Q E nL pc lv (.int a4 :: .int a3 :: .int a2 :: .int a1 :: .ref 45 :: rest) (σ, τ, q) := by
  exact wi_callV hC (n := 4) (vs := [.int a1, .int a2, .int a3, .int a4]) (rest := rest) 45 13 (by decide) rfl rfl rfl (c_MC_set l E σ τ q a1 a2 a3 a4 hp) (by decide +kernel) wd_601 wd_558 wd_602 wd_603 ⟨rfl, rfl⟩ rfl rfl hl hR hs8 d k
set_option maxRecDepth 100000 in
set_option maxHeartbeats 400000 in
theorem c_MC_isNumber (l : Launch) (E : Ev) (σ τ : St) (q : Int64)   : MF l y_MC_isNumber prog_13_method_19_code 1 (some .boolean) { frames := 0, cells := 0, slots := 0, locals := 0 } E [.ref 45] (σ, τ, q) (some (.int (bI (f_MC_isNumber τ)))) (σ, τ, q) := by
  refine MF_intro (lv0 := [(0, .ref 45)]) (by decide) wd_605 (Nat.le_of_ble_eq_true rfl) rfl ?_
  intro p e s m args below meth c Q hC hr hk hQ
  replace hC : Cx p s m args c prog_13_method_19_code 1 "PartnerStackModel$RealConversionsModel" E := hC
  refine wi_aload_n hC 0 d_MC_isNumber_0 rfl rfl ?_
  refine wg_MC_p hC wd_604 d_MC_isNumber_1 ?_
  refine wi_sipush hC 32767 (by decide) d_MC_isNumber_4 ?_
  obtain ⟨Tt1, eTt1⟩ : ∃ y : Bool, y = (
          if 32767 ≤ (gI τ 40 45) then
            false
          else
            true) := ⟨_, rfl⟩
  have Jt1 : ∀ (t1 : Bool), Tt1 = t1 → WS p l e { frames := 0, cells := 0, slots := 0, locals := 0 } s m args below meth c Q E 1 15 [(0, .ref 45)] [.int (bI t1)] (σ, τ, q) := by
    intro t1  e_t1
    rw [eTt1] at e_t1
    have hf : f_MC_isNumber τ = t1 := by subst e_t1; exact rfl
    exact wi_zret hC hr hk d_MC_isNumber_15 rfl (congrArg (fun z => some (Value.int (bI z))) hf) rfl hQ
  refine wi_icmp_ge hC 14 d_MC_isNumber_7 (by decide) (fun h1 => ?_) (fun h1 => ?_)
  · skip
    refine wi_iconst hC 0 (by decide) d_MC_isNumber_14 ?_
    exact Jt1 false (by exact (Eq.trans eTt1 (if_pos h1)))
  · skip
    refine wi_iconst hC 1 (by decide) d_MC_isNumber_10 ?_
    refine wi_goto hC 15 d_MC_isNumber_11 (by decide) ?_
    exact Jt1 true (by exact (Eq.trans eTt1 (if_neg h1)))
theorem k_MC_isNumber {p : Program} {l : Launch} {e : Env} {R : Room} {s : State} {m : MethodId} {args : Array Value} {below : List Frame} {meth : Method} {c : Code} {Q : State → Prop} {E : Ev} {nL pc index : Nat} {lv : List (Nat × Value)} {rest : List Value} {cc : ByteArray} {own : String} {σ τ : St} {q : Int64}  (hC : Cx p s m args c cc nL own E)   (hl : Cond.methodLink own index y_MC_isNumber ∈ WL) (hR : 0 + 1 ≤ R.frames ∧ 8 + (1 + 11) + 0 ≤ R.locals) (hs8 : (rest.map fun v => v.category).sum ≤ 8) (d : decode cc pc = .ok (.invokevirtual index, 3)) (k : WS p l e R s m args below meth c Q E nL (pc + 3) lv ((.int (bI (f_MC_isNumber τ))) :: rest) (σ, τ, q)) : WS p l e R s m args below meth c Q E nL pc lv (.ref 45 :: rest) (σ, τ, q) := by
  exact wi_callV hC (n := 0) (vs := []) (rest := rest) 45 13 (by decide) rfl rfl rfl (c_MC_isNumber l E σ τ q  ) (by decide +kernel) wd_605 wd_558 wd_606 wd_607 ⟨rfl, rfl⟩ rfl rfl hl hR hs8 d k
set_option maxRecDepth 100000 in
set_option maxHeartbeats 400000 in
theorem c_MC_way (l : Launch) (E : Ev) (σ τ : St) (q : Int64)   : MF l y_MC_way prog_13_method_18_code 1 (some .int) { frames := 0, cells := 0, slots := 0, locals := 0 } E [.ref 45] (σ, τ, q) (some (.int (f_MC_way τ))) (σ, τ, q) := by
  refine MF_intro (lv0 := [(0, .ref 45)]) (by decide) wd_608 (Nat.le_of_ble_eq_true rfl) rfl ?_
  intro p e s m args below meth c Q hC hr hk hQ
  replace hC : Cx p s m args c prog_13_method_18_code 1 "PartnerStackModel$RealConversionsModel" E := hC
  refine wi_aload_n hC 0 d_MC_way_0 rfl rfl ?_
  refine wg_MC_word hC wd_556 d_MC_way_1 ?_
  refine wi_sipush hC 1024 (by decide) d_MC_way_4 ?_
  refine wi_idiv hC (by decide) d_MC_way_7 ?_
  refine wi_iconst hC 4 (by decide) d_MC_way_8 ?_
  refine wi_irem hC (by decide) d_MC_way_9 ?_
  have hf : f_MC_way τ = jrem ((gI τ 38 45) / 1024) 4 := by exact rfl
  exact wi_iret hC hr hk d_MC_way_10 (congrArg (fun z => some (Value.int z)) hf) rfl hQ
theorem k_MC_way {p : Program} {l : Launch} {e : Env} {R : Room} {s : State} {m : MethodId} {args : Array Value} {below : List Frame} {meth : Method} {c : Code} {Q : State → Prop} {E : Ev} {nL pc index : Nat} {lv : List (Nat × Value)} {rest : List Value} {cc : ByteArray} {own : String} {σ τ : St} {q : Int64}  (hC : Cx p s m args c cc nL own E)   (hl : Cond.methodLink own index y_MC_way ∈ WL) (hR : 0 + 1 ≤ R.frames ∧ 8 + (1 + 11) + 0 ≤ R.locals) (hs8 : (rest.map fun v => v.category).sum ≤ 8) (d : decode cc pc = .ok (.invokevirtual index, 3)) (k : WS p l e R s m args below meth c Q E nL (pc + 3) lv ((.int (f_MC_way τ)) :: rest) (σ, τ, q)) : WS p l e R s m args below meth c Q E nL pc lv (.ref 45 :: rest) (σ, τ, q) := by
  exact wi_callV hC (n := 0) (vs := []) (rest := rest) 45 13 (by decide) rfl rfl rfl (c_MC_way l E σ τ q  ) (by decide +kernel) wd_608 wd_558 wd_609 wd_610 ⟨rfl, rfl⟩ rfl rfl hl hR hs8 d k
set_option maxRecDepth 100000 in
set_option maxHeartbeats 400000 in
theorem c_MC_round (l : Launch) (E : Ev) (σ τ : St) (q : Int64) (a1 : Int32) (a2 : Int32)  : MF l y_MC_round prog_13_method_17_code 8 none { frames := 0, cells := 0, slots := 0, locals := 0 } E [.ref 45, .int a1, .int a2] (σ, τ, q) none (σ, (f_MC_round τ a1 a2), q) := by
  refine MF_intro (lv0 := [(0, .ref 45), (1, .int a1), (2, .int a2)]) (by decide) wd_616 (Nat.le_of_ble_eq_true rfl) rfl ?_
  intro p e s m args below meth c Q hC hr hk hQ
  replace hC : Cx p s m args c prog_13_method_17_code 8 "PartnerStackModel$RealConversionsModel" E := hC
  refine wi_aload_n hC 0 d_MC_round_0 rfl rfl ?_
  refine wg_MC_p hC wd_604 d_MC_round_1 ?_
  obtain ⟨Tt1, eTt1⟩ : ∃ y : Int32, y = (
          if gI τ 40 45 = 0 then
            1
          else
            gI τ 40 45) := ⟨_, rfl⟩
  have Jt1 : ∀ (t1 : Int32), Tt1 = t1 → WS p l e { frames := 0, cells := 0, slots := 0, locals := 0 } s m args below meth c Q E 8 15 [(0, .ref 45), (1, .int a1), (2, .int a2)] [.int t1] (σ, τ, q) := by
    intro t1  e_t1
    rw [eTt1] at e_t1
    refine wi_sipush hC 16446 (by decide) d_MC_round_15 ?_
    refine wi_isub hC d_MC_round_18 ?_
    refine wi_nmI (fun v1 e_v1 => ?_)
    refine wi_istore_n hC [(3, .int v1), (0, .ref 45), (1, .int a1), (2, .int a2)] d_MC_round_19 rfl (by decide) rfl ?_
    refine wi_aload_n hC 1 d_MC_round_20 rfl rfl ?_
    refine wi_lconst hC 0 (by decide) d_MC_round_21 ?_
    refine wp_MC_units hC wd_611 d_MC_round_22 ?_
    refine wi_nmM (fun s1 e_s1 => ?_)
    refine wi_aload_n hC 1 d_MC_round_25 rfl rfl ?_
    refine wi_iconst hC 0 (by decide) d_MC_round_26 ?_
    refine wp_MC_great hC false rfl wd_612 d_MC_round_27 ?_
    refine wi_nmM (fun s2 e_s2 => ?_)
    refine wi_iconst hC 0 (by decide) d_MC_round_30 ?_
    refine wi_istore hC [(4, .int 0), (3, .int v1), (0, .ref 45), (1, .int a1), (2, .int a2)] d_MC_round_31 (by decide) rfl ?_
    refine wi_iconst hC 0 (by decide) d_MC_round_33 ?_
    refine wi_istore hC [(5, .int 0), (4, .int 0), (3, .int v1), (0, .ref 45), (1, .int a1), (2, .int a2)] d_MC_round_34 (by decide) rfl ?_
    refine wi_iconst hC 0 (by decide) d_MC_round_36 ?_
    refine wi_istore hC [(6, .int 0), (5, .int 0), (4, .int 0), (3, .int v1), (0, .ref 45), (1, .int a1), (2, .int a2)] d_MC_round_37 (by decide) rfl ?_
    refine wi_loop ((b_MC_round_39 a1 v1)) (fun t3 => 0 ≤ (t3.1).toInt) (fun t3 => [(6, .int t3.1), (5, .int (bI t3.2.1)), (4, .int (bI t3.2.2.1)), (3, .int v1), (0, .ref 45), (1, .int a1), (2, .int a2)]) (fun t3 => (σ, t3.2.2.2, q)) 158 ?_ (up_inv (b := (b_MC_round_39 a1 v1)) (fun t => t.1) 64 0 (st_b_MC_round_39 a1 v1)) (upf 64 0) (0, false, false, s2) (show (0 : Int) ≤ (0 : Int32).toInt by decide) (up_halt (b := (b_MC_round_39 a1 v1)) (fun t => t.1) 64 (st_b_MC_round_39 a1 v1) (0, false, false, s2)) ?_
    · intro t3 hi_t3 hc_t3 hx_t3
      refine wi_iload hC 0 d_MC_round_39 rfl ?_
      refine wi_bipush hC 64 (by decide) d_MC_round_41 ?_
      refine wi_icmp_ge hC 158 d_MC_round_43 (by decide) (fun h2 => ?_) (fun h2 => ?_)
      · skip
        exact hx_t3 (t3.1, t3.2.1, t3.2.2.1, t3.2.2.2) (by exact (if_pos h2))
      · skip
        refine wi_iload_n hC 3 d_MC_round_46 rfl rfl ?_
        refine wi_iload hC 0 d_MC_round_47 rfl ?_
        refine wi_iadd hC d_MC_round_49 ?_
        refine wi_iload_n hC 5 d_MC_round_50 rfl rfl ?_
        refine wi_isub hC d_MC_round_51 ?_
        refine wi_nmI (fun v2 e_v2 => ?_)
        refine wi_istore hC [(7, .int v2), (6, .int t3.1), (5, .int (bI t3.2.1)), (4, .int (bI t3.2.2.1)), (3, .int v1), (0, .ref 45), (1, .int a1), (2, .int a2)] d_MC_round_52 (by decide) rfl ?_
        refine wi_aload_n hC 5 d_MC_round_54 rfl rfl ?_
        refine wg_MC_f hC wd_613 d_MC_round_55 ?_
        refine wi_iload hC 1 d_MC_round_58 rfl ?_
        refine wi_lshr hC d_MC_round_60 ?_
        refine wi_lconst hC 1 (by decide) d_MC_round_61 ?_
        refine wi_land hC d_MC_round_62 ?_
        refine wi_lconst hC 1 (by decide) d_MC_round_63 ?_
        obtain ⟨Tt4, eTt4⟩ : ∃ y : Bool × Bool × St, y = (
                if (jlshr (gJ t3.2.2.2 41 45) t3.1) &&& 1 = 1 then
                  let t5 : Bool := 
                      if gZ t3.2.2.2 43 45 = true then
                        true
                      else
                        if v2 ≤ 63 then
                          false
                        else
                          true
                  let s3 : St := sZ t3.2.2.2 43 45 t5
                  let t6 : St := 
                      if v2 < 0 then
                        s3
                      else
                        if 64 ≤ v2 then
                          s3
                        else
                          let s4 : St := sJ s3 42 45 ((gJ s3 42 45) + (jlshl 1 v2))
                          s4
                  let t7 : Bool := 
                      if t3.2.2.1 = true then
                        true
                      else
                        if v2 = (-1) then
                          true
                        else
                          false
                  let t8 : Bool := 
                      if t3.2.1 = true then
                        true
                      else
                        if (-1) ≤ v2 then
                          false
                        else
                          true
                  (t8, t7, t6)
                else
                  (t3.2.1, t3.2.2.1, t3.2.2.2)) := ⟨_, rfl⟩
        have Jt4 : ∀ (t4 : Bool × Bool × St), Tt4 = t4 → WS p l e { frames := 0, cells := 0, slots := 0, locals := 0 } s m args below meth c Q E 8 152 [(7, .int v2), (6, .int t3.1), (5, .int (bI t4.1)), (4, .int (bI t4.2.1)), (3, .int v1), (0, .ref 45), (1, .int a1), (2, .int a2)] [] (σ, t4.2.2, q) := by
          intro t4  e_t4
          rw [eTt4] at e_t4
          obtain ⟨v3, e_v3⟩ : ∃ y : Int32, t3.1 + 1 = y := ⟨_, rfl⟩
          refine wi_iinc hC 1 v3 [(6, .int v3), (7, .int v2), (5, .int (bI t4.1)), (4, .int (bI t4.2.1)), (3, .int v1), (0, .ref 45), (1, .int a1), (2, .int a2)] d_MC_round_152 rfl (by rw [← e_v3]; rfl) (by decide) rfl ?_
          refine wi_goto hC 39 d_MC_round_155 (by decide) ?_
          refine wi_lv [0, 2, 3, 4, 5, 6, 7] [(6, .int v3), (5, .int (bI t4.1)), (4, .int (bI t4.2.1)), (3, .int v1), (0, .ref 45), (1, .int a1), (2, .int a2)] rfl ?_
          exact hc_t3 (v3, t4.1, t4.2.1, t4.2.2) (by subst e_v3; subst e_t4; subst e_v2; exact (if_neg h2))
        refine wi_lcmp_ne hC 152 d_MC_round_64 d_MC_round_65 (by decide) (fun h3 => ?_) (fun h3 => ?_)
        · skip
          exact Jt4 (t3.2.1, t3.2.2.1, t3.2.2.2) (by exact (Eq.trans eTt4 (if_neg h3)))
        · skip
          refine wi_aload_n hC 5 d_MC_round_68 rfl rfl ?_
          refine wi_aload_n hC 5 d_MC_round_69 rfl rfl ?_
          refine wg_MC_great hC wd_612 d_MC_round_70 ?_
          obtain ⟨Tt5, eTt5⟩ : ∃ y : Bool, y = (
                  if gZ t3.2.2.2 43 45 = true then
                    true
                  else
                    if v2 ≤ 63 then
                      false
                    else
                      true) := ⟨_, rfl⟩
          have Jt5 : ∀ (t5 : Bool), Tt5 = t5 → WS p l e { frames := 0, cells := 0, slots := 0, locals := 0 } s m args below meth c Q E 8 88 [(7, .int v2), (6, .int t3.1), (5, .int (bI t3.2.1)), (4, .int (bI t3.2.2.1)), (3, .int v1), (0, .ref 45), (1, .int a1), (2, .int a2)] [.int (bI t5), .ref 45] (σ, t3.2.2.2, q) := by
            intro t5  e_t5
            rw [eTt5] at e_t5
            refine wp_MC_great hC t5 rfl wd_612 d_MC_round_88 ?_
            refine wi_nmM (fun s3 e_s3 => ?_)
            refine wi_iload hC 0 d_MC_round_91 rfl ?_
            obtain ⟨Tt6, eTt6⟩ : ∃ y : St, y = (
                    if v2 < 0 then
                      s3
                    else
                      if 64 ≤ v2 then
                        s3
                      else
                        let s4 : St := sJ s3 42 45 ((gJ s3 42 45) + (jlshl 1 v2))
                        s4) := ⟨_, rfl⟩
            have Jt6 : ∀ (t6 : St), Tt6 = t6 → WS p l e { frames := 0, cells := 0, slots := 0, locals := 0 } s m args below meth c Q E 8 116 [(7, .int v2), (6, .int t3.1), (5, .int (bI t3.2.1)), (4, .int (bI t3.2.2.1)), (3, .int v1), (0, .ref 45), (1, .int a1), (2, .int a2)] [] (σ, t6, q) := by
              intro t6  e_t6
              rw [eTt6] at e_t6
              refine wi_iload hC 3 d_MC_round_116 rfl ?_
              obtain ⟨Tt7, eTt7⟩ : ∃ y : Bool, y = (
                      if t3.2.2.1 = true then
                        true
                      else
                        if v2 = (-1) then
                          true
                        else
                          false) := ⟨_, rfl⟩
              have Jt7 : ∀ (t7 : Bool), Tt7 = t7 → WS p l e { frames := 0, cells := 0, slots := 0, locals := 0 } s m args below meth c Q E 8 132 [(7, .int v2), (6, .int t3.1), (5, .int (bI t3.2.1)), (4, .int (bI t3.2.2.1)), (3, .int v1), (0, .ref 45), (1, .int a1), (2, .int a2)] [.int (bI t7)] (σ, t6, q) := by
                intro t7  e_t7
                rw [eTt7] at e_t7
                refine wi_istore hC [(4, .int (bI t7)), (7, .int v2), (6, .int t3.1), (5, .int (bI t3.2.1)), (3, .int v1), (0, .ref 45), (1, .int a1), (2, .int a2)] d_MC_round_132 (by decide) rfl ?_
                refine wi_iload hC 3 d_MC_round_134 rfl ?_
                obtain ⟨Tt8, eTt8⟩ : ∃ y : Bool, y = (
                        if t3.2.1 = true then
                          true
                        else
                          if (-1) ≤ v2 then
                            false
                          else
                            true) := ⟨_, rfl⟩
                have Jt8 : ∀ (t8 : Bool), Tt8 = t8 → WS p l e { frames := 0, cells := 0, slots := 0, locals := 0 } s m args below meth c Q E 8 150 [(4, .int (bI t7)), (7, .int v2), (6, .int t3.1), (5, .int (bI t3.2.1)), (3, .int v1), (0, .ref 45), (1, .int a1), (2, .int a2)] [.int (bI t8)] (σ, t6, q) := by
                  intro t8  e_t8
                  rw [eTt8] at e_t8
                  refine wi_istore hC [(5, .int (bI t8)), (4, .int (bI t7)), (7, .int v2), (6, .int t3.1), (3, .int v1), (0, .ref 45), (1, .int a1), (2, .int a2)] d_MC_round_150 (by decide) rfl ?_
                  refine wi_lv [2, 3, 0, 1, 4, 5, 6, 7] [(7, .int v2), (6, .int t3.1), (5, .int (bI t8)), (4, .int (bI t7)), (3, .int v1), (0, .ref 45), (1, .int a1), (2, .int a2)] rfl ?_
                  exact Jt4 (t8, t7, t6) (by subst e_t8; subst e_t7; subst e_t6; subst e_s3; subst e_t5; exact (Eq.trans eTt4 (if_pos h3)))
                refine wi_z_ne (b := t3.2.1) hC 145 d_MC_round_136 (by decide) (fun h10 => ?_) (fun h10 => ?_)
                · skip
                  refine wi_iconst hC 1 (by decide) d_MC_round_145 ?_
                  refine wi_goto hC 150 d_MC_round_146 (by decide) ?_
                  exact Jt8 true (by exact (Eq.trans eTt8 (if_pos h10)))
                · skip
                  refine wi_iload hC 1 d_MC_round_139 rfl ?_
                  refine wi_iconst hC (-1) (by decide) d_MC_round_141 ?_
                  refine wi_icmp_ge hC 149 d_MC_round_142 (by decide) (fun h11 => ?_) (fun h11 => ?_)
                  · skip
                    refine wi_iconst hC 0 (by decide) d_MC_round_149 ?_
                    exact Jt8 false (by exact (Eq.trans eTt8 (Eq.trans (if_neg h10) (if_pos h11))))
                  · skip
                    refine wi_iconst hC 1 (by decide) d_MC_round_145 ?_
                    refine wi_goto hC 150 d_MC_round_146 (by decide) ?_
                    exact Jt8 true (by exact (Eq.trans eTt8 (Eq.trans (if_neg h10) (if_neg h11))))
              refine wi_z_ne (b := t3.2.2.1) hC 127 d_MC_round_118 (by decide) (fun h8 => ?_) (fun h8 => ?_)
              · skip
                refine wi_iconst hC 1 (by decide) d_MC_round_127 ?_
                refine wi_goto hC 132 d_MC_round_128 (by decide) ?_
                exact Jt7 true (by exact (Eq.trans eTt7 (if_pos h8)))
              · skip
                refine wi_iload hC 0 d_MC_round_121 rfl ?_
                refine wi_iconst hC (-1) (by decide) d_MC_round_123 ?_
                refine wi_icmp_ne hC 131 d_MC_round_124 (by decide) (fun h9 => ?_) (fun h9 => ?_)
                · skip
                  refine wi_iconst hC 0 (by decide) d_MC_round_131 ?_
                  exact Jt7 false (by exact (Eq.trans eTt7 (Eq.trans (if_neg h8) (if_neg h9))))
                · skip
                  refine wi_iconst hC 1 (by decide) d_MC_round_127 ?_
                  refine wi_goto hC 132 d_MC_round_128 (by decide) ?_
                  exact Jt7 true (by exact (Eq.trans eTt7 (Eq.trans (if_neg h8) (if_pos h9))))
            refine wi_if_lt hC 116 d_MC_round_93 (by decide) (fun h6 => ?_) (fun h6 => ?_)
            · skip
              exact Jt6 s3 (by exact (Eq.trans eTt6 (if_pos h6)))
            · skip
              refine wi_iload hC 0 d_MC_round_96 rfl ?_
              refine wi_bipush hC 64 (by decide) d_MC_round_98 ?_
              refine wi_icmp_ge hC 116 d_MC_round_100 (by decide) (fun h7 => ?_) (fun h7 => ?_)
              · skip
                exact Jt6 s3 (by exact (Eq.trans eTt6 (Eq.trans (if_neg h6) (if_pos h7))))
              · skip
                refine wi_aload_n hC 5 d_MC_round_103 rfl rfl ?_
                refine wi_dup hC rfl d_MC_round_104 ?_
                refine wg_MC_units hC wd_611 d_MC_round_105 ?_
                refine wi_lconst hC 1 (by decide) d_MC_round_108 ?_
                refine wi_iload hC 0 d_MC_round_109 rfl ?_
                refine wi_lshl hC d_MC_round_111 ?_
                refine wi_ladd hC d_MC_round_112 ?_
                refine wp_MC_units hC wd_611 d_MC_round_113 ?_
                refine wi_nmM (fun s4 e_s4 => ?_)
                exact Jt6 s4 (by subst e_s4; exact (Eq.trans eTt6 (Eq.trans (if_neg h6) (if_neg h7))))
          refine wi_z_ne (b := (gZ t3.2.2.2 43 45)) hC 83 d_MC_round_73 (by decide) (fun h4 => ?_) (fun h4 => ?_)
          · skip
            refine wi_iconst hC 1 (by decide) d_MC_round_83 ?_
            refine wi_goto hC 88 d_MC_round_84 (by decide) ?_
            exact Jt5 true (by exact (Eq.trans eTt5 (if_pos h4)))
          · skip
            refine wi_iload hC 0 d_MC_round_76 rfl ?_
            refine wi_bipush hC 63 (by decide) d_MC_round_78 ?_
            refine wi_icmp_le hC 87 d_MC_round_80 (by decide) (fun h5 => ?_) (fun h5 => ?_)
            · skip
              refine wi_iconst hC 0 (by decide) d_MC_round_87 ?_
              exact Jt5 false (by exact (Eq.trans eTt5 (Eq.trans (if_neg h4) (if_pos h5))))
            · skip
              refine wi_iconst hC 1 (by decide) d_MC_round_83 ?_
              refine wi_goto hC 88 d_MC_round_84 (by decide) ?_
              exact Jt5 true (by exact (Eq.trans eTt5 (Eq.trans (if_neg h4) (if_neg h5))))
    obtain ⟨t2, e_t2⟩ : ∃ y : Int32 × Bool × Bool × St, lpn ((b_MC_round_39 a1 v1)) (upf 64 0) (0, false, false, s2) = y := ⟨_, rfl⟩
    rw [e_t2]
    refine wi_aload_n hC 4 d_MC_round_158 rfl rfl ?_
    refine wi_iload hC 2 d_MC_round_159 rfl ?_
    obtain ⟨Tt9, eTt9⟩ : ∃ y : Bool, y = (
            if t2.2.2.1 = true then
              true
            else
              if t2.2.1 = true then
                true
              else
                false) := ⟨_, rfl⟩
    have Jt9 : ∀ (t9 : Bool), Tt9 = t9 → WS p l e { frames := 0, cells := 0, slots := 0, locals := 0 } s m args below meth c Q E 8 174 [(6, .int t2.1), (5, .int (bI t2.2.1)), (4, .int (bI t2.2.2.1)), (3, .int v1), (0, .ref 45), (1, .int a1), (2, .int a2)] [.int (bI t9), .ref 45] (σ, t2.2.2.2, q) := by
      intro t9  e_t9
      rw [eTt9] at e_t9
      refine wp_MC_lossy hC t9 rfl wd_614 d_MC_round_174 ?_
      refine wi_nmM (fun s5 e_s5 => ?_)
      refine wi_iload_n hC 6 d_MC_round_177 rfl rfl ?_
      obtain ⟨Tt10, eTt10⟩ : ∃ y : Bool, y = (
              if a2 = 0 then
                if t2.2.2.1 = true then
                  if t2.2.1 = true then
                    true
                  else
                    if jlrem (gJ s5 42 45) 2 = 0 then
                      false
                    else
                      true
                else
                  false
              else
                if a2 = 4 then
                  if t2.2.2.1 = true then
                    if t2.2.1 = true then
                      true
                    else
                      false
                  else
                    false
                else
                  if gZ s5 44 45 = true then
                    let t11 : Int32 := 
                        if gZ s5 39 45 = true then
                          1
                        else
                          2
                    if a2 = t11 then
                      true
                    else
                      false
                  else
                    false) := ⟨_, rfl⟩
      have Jt10 : ∀ (t10 : Bool), Tt10 = t10 → WS p l e { frames := 0, cells := 0, slots := 0, locals := 0 } s m args below meth c Q E 8 263 [(6, .int t2.1), (5, .int (bI t2.2.1)), (4, .int (bI t2.2.2.1)), (3, .int v1), (0, .ref 45), (1, .int a1), (2, .int a2)] [.int (bI t10)] (σ, s5, q) := by
        intro t10  e_t10
        rw [eTt10] at e_t10
        refine wi_istore hC [(6, .int (bI t10)), (5, .int (bI t2.2.1)), (4, .int (bI t2.2.2.1)), (3, .int v1), (0, .ref 45), (1, .int a1), (2, .int a2)] d_MC_round_263 (by decide) rfl ?_
        refine wi_aload_n hC 4 d_MC_round_265 rfl rfl ?_
        refine wi_iload hC 0 d_MC_round_266 rfl ?_
        obtain ⟨Tt12, eTt12⟩ : ∃ y : Int64, y = (
                if t10 = true then
                  (gJ s5 42 45) + 1
                else
                  gJ s5 42 45) := ⟨_, rfl⟩
        have Jt12 : ∀ (t12 : Int64), Tt12 = t12 → WS p l e { frames := 0, cells := 0, slots := 0, locals := 0 } s m args below meth c Q E 8 284 [(6, .int (bI t10)), (5, .int (bI t2.2.1)), (4, .int (bI t2.2.2.1)), (3, .int v1), (0, .ref 45), (1, .int a1), (2, .int a2)] [.long t12, .ref 45] (σ, s5, q) := by
          intro t12  e_t12
          rw [eTt12] at e_t12
          refine wp_MC_units hC wd_611 d_MC_round_284 ?_
          refine wi_nmM (fun s6 e_s6 => ?_)
          have hf : f_MC_round τ a1 a2 = s6 := by subst e_s6; subst e_t12; subst e_t10; subst e_s5; subst e_t9; subst e_t2; subst e_s2; subst e_s1; subst e_v1; subst e_t1; exact rfl
          exact wi_vret hC hr hk d_MC_round_287 rfl (congrArg (fun z => (σ, z, q)) hf).symm hQ
        refine wi_z_eq (b := t10) hC 280 d_MC_round_268 (by decide) (fun h24 => ?_) (fun h24 => ?_)
        · skip
          refine wi_aload_n hC 4 d_MC_round_280 rfl rfl ?_
          refine wg_MC_units hC wd_611 d_MC_round_281 ?_
          exact Jt12 (gJ s5 42 45) (by exact (Eq.trans eTt12 (if_neg h24)))
        · skip
          refine wi_aload_n hC 4 d_MC_round_271 rfl rfl ?_
          refine wg_MC_units hC wd_611 d_MC_round_272 ?_
          refine wi_lconst hC 1 (by decide) d_MC_round_275 ?_
          refine wi_ladd hC d_MC_round_276 ?_
          refine wi_goto hC 284 d_MC_round_277 (by decide) ?_
          exact Jt12 ((gJ s5 42 45) + 1) (by exact (Eq.trans eTt12 (if_pos h24)))
      refine wi_if_ne hC 212 d_MC_round_178 (by decide) (fun h14 => ?_) (fun h14 => ?_)
      · skip
        refine wi_iload_n hC 6 d_MC_round_212 rfl rfl ?_
        refine wi_iconst hC 4 (by decide) d_MC_round_213 ?_
        refine wi_icmp_ne hC 235 d_MC_round_214 (by decide) (fun h15 => ?_) (fun h15 => ?_)
        · skip
          refine wi_aload_n hC 4 d_MC_round_235 rfl rfl ?_
          refine wg_MC_lossy hC wd_614 d_MC_round_236 ?_
          refine wi_z_eq (b := (gZ s5 44 45)) hC 262 d_MC_round_239 (by decide) (fun h16 => ?_) (fun h16 => ?_)
          · skip
            refine wi_iconst hC 0 (by decide) d_MC_round_262 ?_
            exact Jt10 false (by exact (Eq.trans eTt10 (Eq.trans (if_neg h14) (Eq.trans (if_neg h15) (if_neg h16)))))
          · skip
            refine wi_iload_n hC 6 d_MC_round_242 rfl rfl ?_
            refine wi_aload_n hC 4 d_MC_round_243 rfl rfl ?_
            refine wg_MC_minus hC wd_615 d_MC_round_244 ?_
            obtain ⟨Tt11, eTt11⟩ : ∃ y : Int32, y = (
                    if gZ s5 39 45 = true then
                      1
                    else
                      2) := ⟨_, rfl⟩
            have Jt11 : ∀ (t11 : Int32), Tt11 = t11 → WS p l e { frames := 0, cells := 0, slots := 0, locals := 0 } s m args below meth c Q E 8 255 [(6, .int t2.1), (5, .int (bI t2.2.1)), (4, .int (bI t2.2.2.1)), (3, .int v1), (0, .ref 45), (1, .int a1), (2, .int a2)] [.int t11, .int a2] (σ, s5, q) := by
              intro t11  e_t11
              rw [eTt11] at e_t11
              refine wi_icmp_ne hC 262 d_MC_round_255 (by decide) (fun h18 => ?_) (fun h18 => ?_)
              · skip
                refine wi_iconst hC 0 (by decide) d_MC_round_262 ?_
                exact Jt10 false (by subst e_t11; exact (Eq.trans eTt10 (Eq.trans (if_neg h14) (Eq.trans (if_neg h15) (Eq.trans (if_pos h16) (if_neg h18))))))
              · skip
                refine wi_iconst hC 1 (by decide) d_MC_round_258 ?_
                refine wi_goto hC 263 d_MC_round_259 (by decide) ?_
                exact Jt10 true (by subst e_t11; exact (Eq.trans eTt10 (Eq.trans (if_neg h14) (Eq.trans (if_neg h15) (Eq.trans (if_pos h16) (if_pos h18))))))
            refine wi_z_eq (b := (gZ s5 39 45)) hC 254 d_MC_round_247 (by decide) (fun h17 => ?_) (fun h17 => ?_)
            · skip
              refine wi_iconst hC 2 (by decide) d_MC_round_254 ?_
              exact Jt11 2 (by exact (Eq.trans eTt11 (if_neg h17)))
            · skip
              refine wi_iconst hC 1 (by decide) d_MC_round_250 ?_
              refine wi_goto hC 255 d_MC_round_251 (by decide) ?_
              exact Jt11 1 (by exact (Eq.trans eTt11 (if_pos h17)))
        · skip
          refine wi_iload hC 2 d_MC_round_217 rfl ?_
          refine wi_z_eq (b := t2.2.2.1) hC 231 d_MC_round_219 (by decide) (fun h19 => ?_) (fun h19 => ?_)
          · skip
            refine wi_iconst hC 0 (by decide) d_MC_round_231 ?_
            refine wi_goto hC 263 d_MC_round_232 (by decide) ?_
            exact Jt10 false (by exact (Eq.trans eTt10 (Eq.trans (if_neg h14) (Eq.trans (if_pos h15) (if_neg h19)))))
          · skip
            refine wi_iload hC 1 d_MC_round_222 rfl ?_
            refine wi_z_eq (b := t2.2.1) hC 231 d_MC_round_224 (by decide) (fun h20 => ?_) (fun h20 => ?_)
            · skip
              refine wi_iconst hC 0 (by decide) d_MC_round_231 ?_
              refine wi_goto hC 263 d_MC_round_232 (by decide) ?_
              exact Jt10 false (by exact (Eq.trans eTt10 (Eq.trans (if_neg h14) (Eq.trans (if_pos h15) (Eq.trans (if_pos h19) (if_neg h20))))))
            · skip
              refine wi_iconst hC 1 (by decide) d_MC_round_227 ?_
              refine wi_goto hC 263 d_MC_round_228 (by decide) ?_
              exact Jt10 true (by exact (Eq.trans eTt10 (Eq.trans (if_neg h14) (Eq.trans (if_pos h15) (Eq.trans (if_pos h19) (if_pos h20))))))
      · skip
        refine wi_iload hC 2 d_MC_round_181 rfl ?_
        refine wi_z_eq (b := t2.2.2.1) hC 208 d_MC_round_183 (by decide) (fun h21 => ?_) (fun h21 => ?_)
        · skip
          refine wi_iconst hC 0 (by decide) d_MC_round_208 ?_
          refine wi_goto hC 263 d_MC_round_209 (by decide) ?_
          exact Jt10 false (by exact (Eq.trans eTt10 (Eq.trans (if_pos h14) (if_neg h21))))
        · skip
          refine wi_iload hC 1 d_MC_round_186 rfl ?_
          refine wi_z_ne (b := t2.2.1) hC 204 d_MC_round_188 (by decide) (fun h22 => ?_) (fun h22 => ?_)
          · skip
            refine wi_iconst hC 1 (by decide) d_MC_round_204 ?_
            refine wi_goto hC 263 d_MC_round_205 (by decide) ?_
            exact Jt10 true (by exact (Eq.trans eTt10 (Eq.trans (if_pos h14) (Eq.trans (if_pos h21) (if_pos h22)))))
          · skip
            refine wi_aload_n hC 4 d_MC_round_191 rfl rfl ?_
            refine wg_MC_units hC wd_611 d_MC_round_192 ?_
            refine wi_ldc2 hC wd_570 d_MC_round_195 ?_
            refine wi_lrem hC (by decide) d_MC_round_198 ?_
            refine wi_lconst hC 0 (by decide) d_MC_round_199 ?_
            refine wi_lcmp_eq hC 208 d_MC_round_200 d_MC_round_201 (by decide) (fun h23 => ?_) (fun h23 => ?_)
            · skip
              refine wi_iconst hC 0 (by decide) d_MC_round_208 ?_
              refine wi_goto hC 263 d_MC_round_209 (by decide) ?_
              exact Jt10 false (by exact (Eq.trans eTt10 (Eq.trans (if_pos h14) (Eq.trans (if_pos h21) (Eq.trans (if_neg h22) (if_pos h23))))))
            · skip
              refine wi_iconst hC 1 (by decide) d_MC_round_204 ?_
              refine wi_goto hC 263 d_MC_round_205 (by decide) ?_
              exact Jt10 true (by exact (Eq.trans eTt10 (Eq.trans (if_pos h14) (Eq.trans (if_pos h21) (Eq.trans (if_neg h22) (if_neg h23))))))
    refine wi_z_ne (b := t2.2.2.1) hC 169 d_MC_round_161 (by decide) (fun h12 => ?_) (fun h12 => ?_)
    · skip
      refine wi_iconst hC 1 (by decide) d_MC_round_169 ?_
      refine wi_goto hC 174 d_MC_round_170 (by decide) ?_
      exact Jt9 true (by exact (Eq.trans eTt9 (if_pos h12)))
    · skip
      refine wi_iload hC 1 d_MC_round_164 rfl ?_
      refine wi_z_eq (b := t2.2.1) hC 173 d_MC_round_166 (by decide) (fun h13 => ?_) (fun h13 => ?_)
      · skip
        refine wi_iconst hC 0 (by decide) d_MC_round_173 ?_
        exact Jt9 false (by exact (Eq.trans eTt9 (Eq.trans (if_neg h12) (if_neg h13))))
      · skip
        refine wi_iconst hC 1 (by decide) d_MC_round_169 ?_
        refine wi_goto hC 174 d_MC_round_170 (by decide) ?_
        exact Jt9 true (by exact (Eq.trans eTt9 (Eq.trans (if_neg h12) (if_pos h13))))
  refine wi_if_ne hC 11 d_MC_round_4 (by decide) (fun h1 => ?_) (fun h1 => ?_)
  · skip
    refine wi_aload_n hC 0 d_MC_round_11 rfl rfl ?_
    refine wg_MC_p hC wd_604 d_MC_round_12 ?_
    exact Jt1 (gI τ 40 45) (by exact (Eq.trans eTt1 (if_neg h1)))
  · skip
    refine wi_iconst hC 1 (by decide) d_MC_round_7 ?_
    refine wi_goto hC 15 d_MC_round_8 (by decide) ?_
    exact Jt1 1 (by exact (Eq.trans eTt1 (if_pos h1)))
theorem k_MC_round {p : Program} {l : Launch} {e : Env} {R : Room} {s : State} {m : MethodId} {args : Array Value} {below : List Frame} {meth : Method} {c : Code} {Q : State → Prop} {E : Ev} {nL pc index : Nat} {lv : List (Nat × Value)} {rest : List Value} {cc : ByteArray} {own : String} {σ τ : St} {q : Int64} {a1 : Int32} {a2 : Int32} (hC : Cx p s m args c cc nL own E)   (hl : Cond.methodLink own index y_MC_round ∈ WL) (hR : 0 + 1 ≤ R.frames ∧ 8 + (8 + 11) + 0 ≤ R.locals) (hs8 : (rest.map fun v => v.category).sum ≤ 8) (d : decode cc pc = .ok (.invokevirtual index, 3)) (k : WS p l e R s m args below meth c Q E nL (pc + 3) lv rest (σ, (f_MC_round τ a1 a2), q)) : WS p l e R s m args below meth c Q E nL pc lv (.int a2 :: .int a1 :: .ref 45 :: rest) (σ, τ, q) := by
  exact wi_callV hC (n := 2) (vs := [.int a1, .int a2]) (rest := rest) 45 13 (by decide) rfl rfl rfl (c_MC_round l E σ τ q a1 a2 ) (by decide +kernel) wd_616 wd_558 wd_617 wd_618 ⟨rfl, rfl⟩ rfl rfl hl hR hs8 d k
set_option maxRecDepth 100000 in
set_option maxHeartbeats 400000 in
theorem c_MC_setBit (l : Launch) (E : Ev) (σ τ : St) (q : Int64) (a1 : Int32) (a2 : Bool) (hp : vp_in a1 80) : MF l y_MC_setBit prog_13_method_11_code 4 none { frames := 1, cells := 0, slots := 0, locals := 21 } E [.ref 45, .int a1, .int (bI a2)] (σ, τ, q) none (σ, (f_MC_setBit τ a1 a2), q) := by
  refine MF_intro (lv0 := [(0, .ref 45), (1, .int a1), (2, .int (bI a2))]) (by decide) wd_619 (Nat.le_of_ble_eq_true rfl) rfl ?_
  intro p e s m args below meth c Q hC hr hk hQ
  replace hC : Cx p s m args c prog_13_method_11_code 4 "PartnerStackModel$RealConversionsModel" E := hC
  refine wi_aload_n hC 0 d_MC_setBit_0 rfl rfl ?_
  refine wi_iload_n hC 1 d_MC_setBit_1 rfl rfl ?_
  refine k_MC_bit hC hp wd_571 (by decide) (Nat.le_of_ble_eq_true rfl) d_MC_setBit_2 ?_
  refine wi_iconst hC 1 (by decide) d_MC_setBit_5 ?_
  obtain ⟨Tt1, eTt1⟩ : ∃ y : Bool, y = (
          if f_MC_bit τ a1 = 1 then
            true
          else
            false) := ⟨_, rfl⟩
  have Jt1 : ∀ (t1 : Bool), Tt1 = t1 → WS p l e { frames := 1, cells := 0, slots := 0, locals := 21 } s m args below meth c Q E 4 14 [(0, .ref 45), (1, .int a1), (2, .int (bI a2))] [.int (bI t1)] (σ, τ, q) := by
    intro t1  e_t1
    rw [eTt1] at e_t1
    refine wi_istore_n hC [(3, .int (bI t1)), (0, .ref 45), (1, .int a1), (2, .int (bI a2))] d_MC_setBit_14 rfl (by decide) rfl ?_
    refine wi_iload_n hC 0 d_MC_setBit_15 rfl rfl ?_
    refine wi_iload_n hC 3 d_MC_setBit_16 rfl rfl ?_
    obtain ⟨Tt2, eTt2⟩ : ∃ y : St, y = (
            if t1 = a2 then
              τ
            else
              let t3 : Int32 := 
                  if a2 = true then
                    jshl 1 (jrem a1 8)
                  else
                    -(jshl 1 (jrem a1 8))
              let s1 : St := sI τ 114 (jat (a1 / 8)) ((gI τ 114 (jat (a1 / 8))) + t3)
              s1) := ⟨_, rfl⟩
    have Jt2 : ∀ (t2 : St), Tt2 = t2 → WS p l e { frames := 1, cells := 0, slots := 0, locals := 21 } s m args below meth c Q E 4 52 [(3, .int (bI t1)), (0, .ref 45), (1, .int a1), (2, .int (bI a2))] [] (σ, t2, q) := by
      intro t2  e_t2
      rw [eTt2] at e_t2
      have hf : f_MC_setBit τ a1 a2 = t2 := by subst e_t2; subst e_t1; exact rfl
      exact wi_vret hC hr hk d_MC_setBit_52 rfl (congrArg (fun z => (σ, z, q)) hf).symm hQ
    refine wi_zc_eq (a := t1) (b := a2) hC 52 d_MC_setBit_17 (by decide) (fun h2 => ?_) (fun h2 => ?_)
    · skip
      exact Jt2 τ (by exact (Eq.trans eTt2 (if_pos h2)))
    · skip
      refine wi_aload_n hC 1 d_MC_setBit_20 rfl rfl ?_
      refine wg_MC_memory hC wd_561 d_MC_setBit_21 ?_
      refine wi_iload_n hC 2 d_MC_setBit_24 rfl rfl ?_
      refine wi_bipush hC 8 (by decide) d_MC_setBit_25 ?_
      refine wi_idiv hC (by decide) d_MC_setBit_27 ?_
      refine wi_dup2_11 hC rfl rfl d_MC_setBit_28 ?_
      refine wa_ld48 hC (div8 hp) d_MC_setBit_29 ?_
      refine wi_iload_n hC 3 d_MC_setBit_30 rfl rfl ?_
      obtain ⟨Tt3, eTt3⟩ : ∃ y : Int32, y = (
              if a2 = true then
                jshl 1 (jrem a1 8)
              else
                -(jshl 1 (jrem a1 8))) := ⟨_, rfl⟩
      have Jt3 : ∀ (t3 : Int32), Tt3 = t3 → WS p l e { frames := 1, cells := 0, slots := 0, locals := 21 } s m args below meth c Q E 4 50 [(3, .int (bI t1)), (0, .ref 45), (1, .int a1), (2, .int (bI a2))] [.int t3, .int (gI τ 114 (jat (a1 / 8))), .int (a1 / 8), .ref 48] (σ, τ, q) := by
        intro t3  e_t3
        rw [eTt3] at e_t3
        refine wi_iadd hC d_MC_setBit_50 ?_
        refine wa_st48 hC (div8 hp) d_MC_setBit_51 ?_
        refine wi_nmM (fun s1 e_s1 => ?_)
        exact Jt2 s1 (by subst e_s1; subst e_t3; exact (Eq.trans eTt2 (if_neg h2)))
      refine wi_z_eq (b := a2) hC 43 d_MC_setBit_31 (by decide) (fun h3 => ?_) (fun h3 => ?_)
      · skip
        refine wi_iconst hC 1 (by decide) d_MC_setBit_43 ?_
        refine wi_iload_n hC 2 d_MC_setBit_44 rfl rfl ?_
        refine wi_bipush hC 8 (by decide) d_MC_setBit_45 ?_
        refine wi_irem hC (by decide) d_MC_setBit_47 ?_
        refine wi_ishl hC d_MC_setBit_48 ?_
        refine wi_ineg hC d_MC_setBit_49 ?_
        exact Jt3 (-(jshl 1 (jrem a1 8))) (by exact (Eq.trans eTt3 (if_neg h3)))
      · skip
        refine wi_iconst hC 1 (by decide) d_MC_setBit_34 ?_
        refine wi_iload_n hC 2 d_MC_setBit_35 rfl rfl ?_
        refine wi_bipush hC 8 (by decide) d_MC_setBit_36 ?_
        refine wi_irem hC (by decide) d_MC_setBit_38 ?_
        refine wi_ishl hC d_MC_setBit_39 ?_
        refine wi_goto hC 50 d_MC_setBit_40 (by decide) ?_
        exact Jt3 (jshl 1 (jrem a1 8)) (by exact (Eq.trans eTt3 (if_pos h3)))
  refine wi_icmp_ne hC 13 d_MC_setBit_6 (by decide) (fun h1 => ?_) (fun h1 => ?_)
  · skip
    refine wi_iconst hC 0 (by decide) d_MC_setBit_13 ?_
    exact Jt1 false (by exact (Eq.trans eTt1 (if_neg h1)))
  · skip
    refine wi_iconst hC 1 (by decide) d_MC_setBit_9 ?_
    refine wi_goto hC 14 d_MC_setBit_10 (by decide) ?_
    exact Jt1 true (by exact (Eq.trans eTt1 (if_pos h1)))
theorem k_MC_setBit {p : Program} {l : Launch} {e : Env} {R : Room} {s : State} {m : MethodId} {args : Array Value} {below : List Frame} {meth : Method} {c : Code} {Q : State → Prop} {E : Ev} {nL pc index : Nat} {lv : List (Nat × Value)} {rest : List Value} {cc : ByteArray} {own : String} {σ τ : St} {q : Int64} {a1 : Int32} (hC : Cx p s m args c cc nL own E) {x_a2 : Int32} (a2 : Bool) (hx_a2 : x_a2 = bI a2) (hp : vp_in a1 80) (hl : Cond.methodLink own index y_MC_setBit ∈ WL) (hR : 1 + 1 ≤ R.frames ∧ 8 + (4 + 11) + 21 ≤ R.locals) (hs8 : (rest.map fun v => v.category).sum ≤ 8) (d : decode cc pc = .ok (.invokevirtual index, 3)) (k : WS p l e R s m args below meth c Q E nL (pc + 3) lv rest (σ, (f_MC_setBit τ a1 a2), q)) : WS p l e R s m args below meth c Q E nL pc lv (.int x_a2 :: .int a1 :: .ref 45 :: rest) (σ, τ, q) := by
  subst hx_a2
  exact wi_callV hC (n := 2) (vs := [.int a1, .int (bI a2)]) (rest := rest) 45 13 (by decide) rfl rfl rfl (c_MC_setBit l E σ τ q a1 a2 hp) (by decide +kernel) wd_619 wd_558 wd_620 wd_621 ⟨rfl, rfl⟩ rfl rfl hl hR hs8 d k
set_option maxRecDepth 100000 in
set_option maxHeartbeats 400000 in
theorem c_MC_setBits (l : Launch) (E : Ev) (σ τ : St) (q : Int64) (a1 : Int32) (a2 : Int32) (a3 : Int64) (hp : 0 ≤ a1.toInt ∧ 0 ≤ a2.toInt ∧ a1.toInt + a2.toInt ≤ 80) : MF l y_MC_setBits prog_13_method_13_code 6 none { frames := 2, cells := 0, slots := 0, locals := 44 } E [.ref 45, .int a1, .int a2, .long a3] (σ, τ, q) none (σ, (f_MC_setBits τ a1 a2 a3), q) := by
  refine MF_intro (lv0 := [(0, .ref 45), (1, .int a1), (2, .int a2), (3, .long a3)]) (by decide) wd_623 (Nat.le_of_ble_eq_true rfl) rfl ?_
  intro p e s m args below meth c Q hC hr hk hQ
  replace hC : Cx p s m args c prog_13_method_13_code 6 "PartnerStackModel$RealConversionsModel" E := hC
  refine wi_iconst hC 0 (by decide) d_MC_setBits_0 ?_
  refine wi_istore hC [(5, .int 0), (0, .ref 45), (1, .int a1), (2, .int a2), (3, .long a3)] d_MC_setBits_1 (by decide) rfl ?_
  refine wi_loop ((b_MC_setBits_3 a1 a2 a3)) (fun t2 => 0 ≤ (t2.1).toInt) (fun t2 => [(5, .int t2.1), (0, .ref 45), (1, .int a1), (2, .int a2), (3, .long a3)]) (fun t2 => (σ, t2.2, q)) 39 ?_ (up_inv (b := (b_MC_setBits_3 a1 a2 a3)) (fun t => t.1) a2 0 (st_b_MC_setBits_3 a1 a2 a3)) (upf a2 0) (0, τ) (show (0 : Int) ≤ (0 : Int32).toInt by decide) (up_halt (b := (b_MC_setBits_3 a1 a2 a3)) (fun t => t.1) a2 (st_b_MC_setBits_3 a1 a2 a3) (0, τ)) ?_
  · intro t2 hi_t2 hc_t2 hx_t2
    refine wi_iload hC 0 d_MC_setBits_3 rfl ?_
    refine wi_iload_n hC 3 d_MC_setBits_5 rfl rfl ?_
    refine wi_icmp_ge hC 39 d_MC_setBits_6 (by decide) (fun h1 => ?_) (fun h1 => ?_)
    · skip
      exact hx_t2 (t2.1, t2.2) (by exact (if_pos h1))
    · skip
      refine wi_aload_n hC 1 d_MC_setBits_9 rfl rfl ?_
      refine wi_iload_n hC 2 d_MC_setBits_10 rfl rfl ?_
      refine wi_iload hC 0 d_MC_setBits_11 rfl ?_
      refine wi_iadd hC d_MC_setBits_13 ?_
      refine wi_lload_n hC 4 d_MC_setBits_14 rfl rfl ?_
      refine wi_iload hC 0 d_MC_setBits_15 rfl ?_
      refine wi_lshr hC d_MC_setBits_17 ?_
      refine wi_lconst hC 1 (by decide) d_MC_setBits_18 ?_
      refine wi_land hC d_MC_setBits_19 ?_
      refine wi_lconst hC 1 (by decide) d_MC_setBits_20 ?_
      obtain ⟨Tt3, eTt3⟩ : ∃ y : Bool, y = (
              if (jlshr a3 t2.1) &&& 1 = 1 then
                true
              else
                false) := ⟨_, rfl⟩
      have Jt3 : ∀ (t3 : Bool), Tt3 = t3 → WS p l e { frames := 2, cells := 0, slots := 0, locals := 44 } s m args below meth c Q E 6 30 [(5, .int t2.1), (0, .ref 45), (1, .int a1), (2, .int a2), (3, .long a3)] [.int (bI t3), .int (a1 + t2.1), .ref 45] (σ, t2.2, q) := by
        intro t3  e_t3
        rw [eTt3] at e_t3
        refine k_MC_setBit hC t3 rfl (setb_in hp hi_t2 h1) wd_622 (by decide) (Nat.le_of_ble_eq_true rfl) d_MC_setBits_30 ?_
        refine wi_nmM (fun s1 e_s1 => ?_)
        obtain ⟨v1, e_v1⟩ : ∃ y : Int32, t2.1 + 1 = y := ⟨_, rfl⟩
        refine wi_iinc hC 0 v1 [(5, .int v1), (0, .ref 45), (1, .int a1), (2, .int a2), (3, .long a3)] d_MC_setBits_33 rfl (by rw [← e_v1]; rfl) (by decide) rfl ?_
        refine wi_goto hC 3 d_MC_setBits_36 (by decide) ?_
        exact hc_t2 (v1, s1) (by subst e_v1; subst e_s1; subst e_t3; exact (if_neg h1))
      refine wi_lcmp_ne hC 29 d_MC_setBits_21 d_MC_setBits_22 (by decide) (fun h2 => ?_) (fun h2 => ?_)
      · skip
        refine wi_iconst hC 0 (by decide) d_MC_setBits_29 ?_
        exact Jt3 false (by exact (Eq.trans eTt3 (if_neg h2)))
      · skip
        refine wi_iconst hC 1 (by decide) d_MC_setBits_25 ?_
        refine wi_goto hC 30 d_MC_setBits_26 (by decide) ?_
        exact Jt3 true (by exact (Eq.trans eTt3 (if_pos h2)))
  obtain ⟨t1, e_t1⟩ : ∃ y : Int32 × St, lpn ((b_MC_setBits_3 a1 a2 a3)) (upf a2 0) (0, τ) = y := ⟨_, rfl⟩
  rw [e_t1]
  have hf : f_MC_setBits τ a1 a2 a3 = t1.2 := by subst e_t1; exact rfl
  exact wi_vret hC hr hk d_MC_setBits_39 rfl (congrArg (fun z => (σ, z, q)) hf).symm hQ
theorem k_MC_setBits {p : Program} {l : Launch} {e : Env} {R : Room} {s : State} {m : MethodId} {args : Array Value} {below : List Frame} {meth : Method} {c : Code} {Q : State → Prop} {E : Ev} {nL pc index : Nat} {lv : List (Nat × Value)} {rest : List Value} {cc : ByteArray} {own : String} {σ τ : St} {q : Int64} {a1 : Int32} {a2 : Int32} {a3 : Int64} (hC : Cx p s m args c cc nL own E)  (hp : 0 ≤ a1.toInt ∧ 0 ≤ a2.toInt ∧ a1.toInt + a2.toInt ≤ 80) (hl : Cond.methodLink own index y_MC_setBits ∈ WL) (hR : 2 + 1 ≤ R.frames ∧ 8 + (6 + 11) + 44 ≤ R.locals) (hs8 : (rest.map fun v => v.category).sum ≤ 8) (d : decode cc pc = .ok (.invokevirtual index, 3)) (k : WS p l e R s m args below meth c Q E nL (pc + 3) lv rest (σ, (f_MC_setBits τ a1 a2 a3), q)) : WS p l e R s m args below meth c Q E nL pc lv (.long a3 :: .int a2 :: .int a1 :: .ref 45 :: rest) (σ, τ, q) := by
  exact wi_callV hC (n := 3) (vs := [.int a1, .int a2, .long a3]) (rest := rest) 45 13 (by decide) rfl rfl rfl (c_MC_setBits l E σ τ q a1 a2 a3 hp) (by decide +kernel) wd_623 wd_558 wd_624 wd_625 ⟨rfl, rfl⟩ rfl rfl hl hR hs8 d k
set_option maxRecDepth 100000 in
set_option maxHeartbeats 400000 in
theorem c_MC_writeWhole (l : Launch) (E : Ev) (σ τ : St) (q : Int64) (a1 : Int32) (hp : 0 ≤ a1.toInt ∧ a1.toInt ≤ 80) : MF l y_MC_writeWhole prog_13_method_21_code 6 (some .int) { frames := 3, cells := 0, slots := 0, locals := 69 } E [.ref 45, .int a1] (σ, τ, q) (some (.int ((f_MC_writeWhole τ a1).1))) (σ, (f_MC_writeWhole τ a1).2, q) := by
  refine MF_intro (lv0 := [(0, .ref 45), (1, .int a1)]) (by decide) wd_630 (Nat.le_of_ble_eq_true rfl) rfl ?_
  intro p e s m args below meth c Q hC hr hk hQ
  replace hC : Cx p s m args c prog_13_method_21_code 6 "PartnerStackModel$RealConversionsModel" E := hC
  refine wi_aload_n hC 0 d_MC_writeWhole_0 rfl rfl ?_
  refine k_MC_isNumber hC  wd_626 (by decide) (Nat.le_of_ble_eq_true rfl) d_MC_writeWhole_1 ?_
  refine wi_nmZ (fun v1 e_v1 => ?_)
  refine wi_istore_n hC [(2, .int (bI v1)), (0, .ref 45), (1, .int a1)] d_MC_writeWhole_4 rfl (by decide) rfl ?_
  refine wi_iload_n hC 0 d_MC_writeWhole_5 rfl rfl ?_
  obtain ⟨Tt1, eTt1⟩ : ∃ y : Bool × St, y = (
          if v1 = true then
            let s1 : St := f_MC_round τ 0 (f_MC_way τ)
            let v2 : Int64 := jlshl 1 (a1 - 1)
            let t2 : Bool := 
                if (gJ s1 42 45) < 0 then
                  false
                else
                  if a1 = 64 then
                    true
                  else
                    if v2 ≤ (gJ s1 42 45) then
                      false
                    else
                      true
            let t3 : Bool := 
                if gZ s1 43 45 = true then
                  false
                else
                  if t2 = true then
                    true
                  else
                    if gZ s1 39 45 = true then
                      if gJ s1 42 45 = v2 then
                        true
                      else
                        false
                    else
                      false
            (t3, s1)
          else
            (v1, τ)) := ⟨_, rfl⟩
  have Jt1 : ∀ (t1 : Bool × St), Tt1 = t1 → WS p l e { frames := 3, cells := 0, slots := 0, locals := 69 } s m args below meth c Q E 6 89 [(2, .int (bI t1.1)), (0, .ref 45), (1, .int a1)] [] (σ, t1.2, q) := by
    intro t1  e_t1
    rw [eTt1] at e_t1
    refine wi_iload_n hC 0 d_MC_writeWhole_89 rfl rfl ?_
    refine wi_z_ne (b := t1.1) hC 114 d_MC_writeWhole_90 (by decide) (fun h9 => ?_) (fun h9 => ?_)
    · skip
      refine wi_aload_n hC 1 d_MC_writeWhole_114 rfl rfl ?_
      refine wi_iconst hC 0 (by decide) d_MC_writeWhole_115 ?_
      refine wi_iload_n hC 2 d_MC_writeWhole_116 rfl rfl ?_
      refine wi_aload_n hC 1 d_MC_writeWhole_117 rfl rfl ?_
      refine wg_MC_minus hC wd_615 d_MC_writeWhole_118 ?_
      obtain ⟨Tt4, eTt4⟩ : ∃ y : Int64, y = (
              if gZ t1.2 39 45 = true then
                0 - (gJ t1.2 42 45)
              else
                gJ t1.2 42 45) := ⟨_, rfl⟩
      have Jt4 : ∀ (t4 : Int64), Tt4 = t4 → WS p l e { frames := 3, cells := 0, slots := 0, locals := 69 } s m args below meth c Q E 6 137 [(2, .int (bI t1.1)), (0, .ref 45), (1, .int a1)] [.long t4, .int a1, .int 0, .ref 45] (σ, t1.2, q) := by
        intro t4  e_t4
        rw [eTt4] at e_t4
        refine k_MC_setBits hC (z80 hp) wd_629 (by decide) (Nat.le_of_ble_eq_true rfl) d_MC_writeWhole_137 ?_
        refine wi_nmM (fun s2 e_s2 => ?_)
        refine wi_aload_n hC 1 d_MC_writeWhole_140 rfl rfl ?_
        refine wg_MC_lossy hC wd_614 d_MC_writeWhole_141 ?_
        obtain ⟨Tt5, eTt5⟩ : ∃ y : Int32, y = (
                if gZ s2 44 45 = true then
                  32
                else
                  0) := ⟨_, rfl⟩
        have Jt5 : ∀ (t5 : Int32), Tt5 = t5 → WS p l e { frames := 3, cells := 0, slots := 0, locals := 69 } s m args below meth c Q E 6 153 [(2, .int (bI t1.1)), (0, .ref 45), (1, .int a1)] [.int t5] (σ, s2, q) := by
          intro t5  e_t5
          rw [eTt5] at e_t5
          have hf : f_MC_writeWhole τ a1 = (t5, s2) := by subst e_t5; subst e_s2; subst e_t4; subst e_t1; subst e_v1; exact (if_pos h9)
          exact wi_iret hC hr hk d_MC_writeWhole_153 (congrArg (fun z => some (Value.int z.1)) hf) (congrArg (fun z => (σ, z.2, q)) hf).symm hQ
        refine wi_z_eq (b := (gZ s2 44 45)) hC 152 d_MC_writeWhole_144 (by decide) (fun h11 => ?_) (fun h11 => ?_)
        · skip
          refine wi_iconst hC 0 (by decide) d_MC_writeWhole_152 ?_
          exact Jt5 0 (by exact (Eq.trans eTt5 (if_neg h11)))
        · skip
          refine wi_bipush hC 32 (by decide) d_MC_writeWhole_147 ?_
          refine wi_goto hC 153 d_MC_writeWhole_149 (by decide) ?_
          exact Jt5 32 (by exact (Eq.trans eTt5 (if_pos h11)))
      refine wi_z_eq (b := (gZ t1.2 39 45)) hC 133 d_MC_writeWhole_121 (by decide) (fun h10 => ?_) (fun h10 => ?_)
      · skip
        refine wi_aload_n hC 1 d_MC_writeWhole_133 rfl rfl ?_
        refine wg_MC_units hC wd_611 d_MC_writeWhole_134 ?_
        exact Jt4 (gJ t1.2 42 45) (by exact (Eq.trans eTt4 (if_neg h10)))
      · skip
        refine wi_lconst hC 0 (by decide) d_MC_writeWhole_124 ?_
        refine wi_aload_n hC 1 d_MC_writeWhole_125 rfl rfl ?_
        refine wg_MC_units hC wd_611 d_MC_writeWhole_126 ?_
        refine wi_lsub hC d_MC_writeWhole_129 ?_
        refine wi_goto hC 137 d_MC_writeWhole_130 (by decide) ?_
        exact Jt4 (0 - (gJ t1.2 42 45)) (by exact (Eq.trans eTt4 (if_pos h10)))
    · skip
      refine wi_aload_n hC 1 d_MC_writeWhole_93 rfl rfl ?_
      refine wi_iconst hC 1 (by decide) d_MC_writeWhole_94 ?_
      refine k_MC_masked hC (by decide) wd_585 (by decide) (Nat.le_of_ble_eq_true rfl) d_MC_writeWhole_95 ?_
      obtain ⟨Tt6, eTt6⟩ : ∃ y : St, y = (
              if f_MC_masked t1.2 1 = true then
                let s3 : St := f_MC_setBits t1.2 0 a1 (jlshl 1 (a1 - 1))
                s3
              else
                t1.2) := ⟨_, rfl⟩
      have Jt6 : ∀ (t6 : St), Tt6 = t6 → WS p l e { frames := 3, cells := 0, slots := 0, locals := 69 } s m args below meth c Q E 6 112 [(2, .int (bI t1.1)), (0, .ref 45), (1, .int a1)] [] (σ, t6, q) := by
        intro t6  e_t6
        rw [eTt6] at e_t6
        refine wi_iconst hC 1 (by decide) d_MC_writeWhole_112 ?_
        have hf : f_MC_writeWhole τ a1 = (1, t6) := by subst e_t6; subst e_t1; subst e_v1; exact (if_neg h9)
        exact wi_iret hC hr hk d_MC_writeWhole_113 (congrArg (fun z => some (Value.int z.1)) hf) (congrArg (fun z => (σ, z.2, q)) hf).symm hQ
      refine wi_z_eq (b := (f_MC_masked t1.2 1)) hC 112 d_MC_writeWhole_98 (by decide) (fun h12 => ?_) (fun h12 => ?_)
      · skip
        exact Jt6 t1.2 (by exact (Eq.trans eTt6 (if_neg h12)))
      · skip
        refine wi_aload_n hC 1 d_MC_writeWhole_101 rfl rfl ?_
        refine wi_iconst hC 0 (by decide) d_MC_writeWhole_102 ?_
        refine wi_iload_n hC 2 d_MC_writeWhole_103 rfl rfl ?_
        refine wi_lconst hC 1 (by decide) d_MC_writeWhole_104 ?_
        refine wi_iload_n hC 2 d_MC_writeWhole_105 rfl rfl ?_
        refine wi_iconst hC 1 (by decide) d_MC_writeWhole_106 ?_
        refine wi_isub hC d_MC_writeWhole_107 ?_
        refine wi_lshl hC d_MC_writeWhole_108 ?_
        refine k_MC_setBits hC (z80 hp) wd_629 (by decide) (Nat.le_of_ble_eq_true rfl) d_MC_writeWhole_109 ?_
        refine wi_nmM (fun s3 e_s3 => ?_)
        exact Jt6 s3 (by subst e_s3; exact (Eq.trans eTt6 (if_pos h12)))
  refine wi_z_eq (b := v1) hC 89 d_MC_writeWhole_6 (by decide) (fun h1 => ?_) (fun h1 => ?_)
  · skip
    exact Jt1 (v1, τ) (by exact (Eq.trans eTt1 (if_neg h1)))
  · skip
    refine wi_aload_n hC 1 d_MC_writeWhole_9 rfl rfl ?_
    refine wi_iconst hC 0 (by decide) d_MC_writeWhole_10 ?_
    refine wi_aload_n hC 1 d_MC_writeWhole_11 rfl rfl ?_
    refine k_MC_way hC  wd_627 (by decide) (Nat.le_of_ble_eq_true rfl) d_MC_writeWhole_12 ?_
    refine k_MC_round hC  wd_628 (by decide) (Nat.le_of_ble_eq_true rfl) d_MC_writeWhole_15 ?_
    refine wi_nmM (fun s1 e_s1 => ?_)
    refine wi_lconst hC 1 (by decide) d_MC_writeWhole_18 ?_
    refine wi_iload_n hC 2 d_MC_writeWhole_19 rfl rfl ?_
    refine wi_iconst hC 1 (by decide) d_MC_writeWhole_20 ?_
    refine wi_isub hC d_MC_writeWhole_21 ?_
    refine wi_lshl hC d_MC_writeWhole_22 ?_
    refine wi_nmJ (fun v2 e_v2 => ?_)
    refine wi_lstore_n hC [(3, .long v2), (2, .int (bI v1)), (0, .ref 45), (1, .int a1)] d_MC_writeWhole_23 rfl (by decide) rfl ?_
    refine wi_aload_n hC 2 d_MC_writeWhole_24 rfl rfl ?_
    refine wg_MC_units hC wd_611 d_MC_writeWhole_25 ?_
    refine wi_lconst hC 0 (by decide) d_MC_writeWhole_28 ?_
    obtain ⟨Tt2, eTt2⟩ : ∃ y : Bool, y = (
            if (gJ s1 42 45) < 0 then
              false
            else
              if a1 = 64 then
                true
              else
                if v2 ≤ (gJ s1 42 45) then
                  false
                else
                  true) := ⟨_, rfl⟩
    have Jt2 : ∀ (t2 : Bool), Tt2 = t2 → WS p l e { frames := 3, cells := 0, slots := 0, locals := 69 } s m args below meth c Q E 6 53 [(3, .long v2), (2, .int (bI v1)), (0, .ref 45), (1, .int a1)] [.int (bI t2)] (σ, s1, q) := by
      intro t2  e_t2
      rw [eTt2] at e_t2
      refine wi_istore hC [(5, .int (bI t2)), (3, .long v2), (2, .int (bI v1)), (0, .ref 45), (1, .int a1)] d_MC_writeWhole_53 (by decide) rfl ?_
      refine wi_aload_n hC 3 d_MC_writeWhole_55 rfl rfl ?_
      refine wg_MC_great hC wd_612 d_MC_writeWhole_56 ?_
      obtain ⟨Tt3, eTt3⟩ : ∃ y : Bool, y = (
              if gZ s1 43 45 = true then
                false
              else
                if t2 = true then
                  true
                else
                  if gZ s1 39 45 = true then
                    if gJ s1 42 45 = v2 then
                      true
                    else
                      false
                  else
                    false) := ⟨_, rfl⟩
      have Jt3 : ∀ (t3 : Bool), Tt3 = t3 → WS p l e { frames := 3, cells := 0, slots := 0, locals := 69 } s m args below meth c Q E 6 88 [(5, .int (bI t2)), (3, .long v2), (2, .int (bI v1)), (0, .ref 45), (1, .int a1)] [.int (bI t3)] (σ, s1, q) := by
        intro t3  e_t3
        rw [eTt3] at e_t3
        refine wi_istore_n hC [(2, .int (bI t3)), (5, .int (bI t2)), (3, .long v2), (0, .ref 45), (1, .int a1)] d_MC_writeWhole_88 rfl (by decide) rfl ?_
        refine wi_lv [0, 3, 4] [(2, .int (bI t3)), (0, .ref 45), (1, .int a1)] rfl ?_
        exact Jt1 (t3, s1) (by subst e_t3; subst e_t2; subst e_v2; subst e_s1; exact (Eq.trans eTt1 (if_pos h1)))
      refine wi_z_ne (b := (gZ s1 43 45)) hC 87 d_MC_writeWhole_59 (by decide) (fun h5 => ?_) (fun h5 => ?_)
      · skip
        refine wi_iconst hC 0 (by decide) d_MC_writeWhole_87 ?_
        exact Jt3 false (by exact (Eq.trans eTt3 (if_pos h5)))
      · skip
        refine wi_iload hC 0 d_MC_writeWhole_62 rfl ?_
        refine wi_z_ne (b := t2) hC 83 d_MC_writeWhole_64 (by decide) (fun h6 => ?_) (fun h6 => ?_)
        · skip
          refine wi_iconst hC 1 (by decide) d_MC_writeWhole_83 ?_
          refine wi_goto hC 88 d_MC_writeWhole_84 (by decide) ?_
          exact Jt3 true (by exact (Eq.trans eTt3 (Eq.trans (if_neg h5) (if_pos h6))))
        · skip
          refine wi_aload_n hC 3 d_MC_writeWhole_67 rfl rfl ?_
          refine wg_MC_minus hC wd_615 d_MC_writeWhole_68 ?_
          refine wi_z_eq (b := (gZ s1 39 45)) hC 87 d_MC_writeWhole_71 (by decide) (fun h7 => ?_) (fun h7 => ?_)
          · skip
            refine wi_iconst hC 0 (by decide) d_MC_writeWhole_87 ?_
            exact Jt3 false (by exact (Eq.trans eTt3 (Eq.trans (if_neg h5) (Eq.trans (if_neg h6) (if_neg h7)))))
          · skip
            refine wi_aload_n hC 3 d_MC_writeWhole_74 rfl rfl ?_
            refine wg_MC_units hC wd_611 d_MC_writeWhole_75 ?_
            refine wi_lload_n hC 1 d_MC_writeWhole_78 rfl rfl ?_
            refine wi_lcmp_ne hC 87 d_MC_writeWhole_79 d_MC_writeWhole_80 (by decide) (fun h8 => ?_) (fun h8 => ?_)
            · skip
              refine wi_iconst hC 0 (by decide) d_MC_writeWhole_87 ?_
              exact Jt3 false (by exact (Eq.trans eTt3 (Eq.trans (if_neg h5) (Eq.trans (if_neg h6) (Eq.trans (if_pos h7) (if_neg h8))))))
            · skip
              refine wi_iconst hC 1 (by decide) d_MC_writeWhole_83 ?_
              refine wi_goto hC 88 d_MC_writeWhole_84 (by decide) ?_
              exact Jt3 true (by exact (Eq.trans eTt3 (Eq.trans (if_neg h5) (Eq.trans (if_neg h6) (Eq.trans (if_pos h7) (if_pos h8))))))
    refine wi_lcmp_lt hC 52 d_MC_writeWhole_29 d_MC_writeWhole_30 (by decide) (fun h2 => ?_) (fun h2 => ?_)
    · skip
      refine wi_iconst hC 0 (by decide) d_MC_writeWhole_52 ?_
      exact Jt2 false (by exact (Eq.trans eTt2 (if_pos h2)))
    · skip
      refine wi_iload_n hC 3 d_MC_writeWhole_33 rfl rfl ?_
      refine wi_bipush hC 64 (by decide) d_MC_writeWhole_34 ?_
      refine wi_icmp_eq hC 48 d_MC_writeWhole_36 (by decide) (fun h3 => ?_) (fun h3 => ?_)
      · skip
        refine wi_iconst hC 1 (by decide) d_MC_writeWhole_48 ?_
        refine wi_goto hC 53 d_MC_writeWhole_49 (by decide) ?_
        exact Jt2 true (by exact (Eq.trans eTt2 (Eq.trans (if_neg h2) (if_pos h3))))
      · skip
        refine wi_aload_n hC 2 d_MC_writeWhole_39 rfl rfl ?_
        refine wg_MC_units hC wd_611 d_MC_writeWhole_40 ?_
        refine wi_lload_n hC 0 d_MC_writeWhole_43 rfl rfl ?_
        refine wi_lcmp_ge hC 52 d_MC_writeWhole_44 d_MC_writeWhole_45 (by decide) (fun h4 => ?_) (fun h4 => ?_)
        · skip
          refine wi_iconst hC 0 (by decide) d_MC_writeWhole_52 ?_
          exact Jt2 false (by exact (Eq.trans eTt2 (Eq.trans (if_neg h2) (Eq.trans (if_neg h3) (if_pos h4)))))
        · skip
          refine wi_iconst hC 1 (by decide) d_MC_writeWhole_48 ?_
          refine wi_goto hC 53 d_MC_writeWhole_49 (by decide) ?_
          exact Jt2 true (by exact (Eq.trans eTt2 (Eq.trans (if_neg h2) (Eq.trans (if_neg h3) (if_neg h4)))))
theorem k_MC_writeWhole {p : Program} {l : Launch} {e : Env} {R : Room} {s : State} {m : MethodId} {args : Array Value} {below : List Frame} {meth : Method} {c : Code} {Q : State → Prop} {E : Ev} {nL pc index : Nat} {lv : List (Nat × Value)} {rest : List Value} {cc : ByteArray} {own : String} {σ τ : St} {q : Int64} {a1 : Int32} (hC : Cx p s m args c cc nL own E)  (hp : 0 ≤ a1.toInt ∧ a1.toInt ≤ 80) (hl : Cond.methodLink own index y_MC_writeWhole ∈ WL) (hR : 3 + 1 ≤ R.frames ∧ 8 + (6 + 11) + 69 ≤ R.locals) (hs8 : (rest.map fun v => v.category).sum ≤ 8) (d : decode cc pc = .ok (.invokevirtual index, 3)) (k : WS p l e R s m args below meth c Q E nL (pc + 3) lv ((.int ((f_MC_writeWhole τ a1).1)) :: rest) (σ, (f_MC_writeWhole τ a1).2, q)) : WS p l e R s m args below meth c Q E nL pc lv (.int a1 :: .ref 45 :: rest) (σ, τ, q) := by
  exact wi_callV hC (n := 1) (vs := [.int a1]) (rest := rest) 45 13 (by decide) rfl rfl rfl (c_MC_writeWhole l E σ τ q a1 hp) (by decide +kernel) wd_630 wd_558 wd_631 wd_632 ⟨rfl, rfl⟩ rfl rfl hl hR hs8 d k
set_option maxRecDepth 100000 in
set_option maxHeartbeats 400000 in
theorem c_MC_isEndless (l : Launch) (E : Ev) (σ τ : St) (q : Int64)   : MF l y_MC_isEndless prog_13_method_20_code 1 (some .boolean) { frames := 0, cells := 0, slots := 0, locals := 0 } E [.ref 45] (σ, τ, q) (some (.int (bI (f_MC_isEndless τ)))) (σ, τ, q) := by
  refine MF_intro (lv0 := [(0, .ref 45)]) (by decide) wd_633 (Nat.le_of_ble_eq_true rfl) rfl ?_
  intro p e s m args below meth c Q hC hr hk hQ
  replace hC : Cx p s m args c prog_13_method_20_code 1 "PartnerStackModel$RealConversionsModel" E := hC
  refine wi_aload_n hC 0 d_MC_isEndless_0 rfl rfl ?_
  refine wg_MC_p hC wd_604 d_MC_isEndless_1 ?_
  refine wi_sipush hC 32767 (by decide) d_MC_isEndless_4 ?_
  obtain ⟨Tt1, eTt1⟩ : ∃ y : Bool, y = (
          if gI τ 40 45 = 32767 then
            if jlshl (gJ τ 41 45) 1 = 0 then
              true
            else
              false
          else
            false) := ⟨_, rfl⟩
  have Jt1 : ∀ (t1 : Bool), Tt1 = t1 → WS p l e { frames := 0, cells := 0, slots := 0, locals := 0 } s m args below meth c Q E 1 26 [(0, .ref 45)] [.int (bI t1)] (σ, τ, q) := by
    intro t1  e_t1
    rw [eTt1] at e_t1
    have hf : f_MC_isEndless τ = t1 := by subst e_t1; exact rfl
    exact wi_zret hC hr hk d_MC_isEndless_26 rfl (congrArg (fun z => some (Value.int (bI z))) hf) rfl hQ
  refine wi_icmp_ne hC 25 d_MC_isEndless_7 (by decide) (fun h1 => ?_) (fun h1 => ?_)
  · skip
    refine wi_iconst hC 0 (by decide) d_MC_isEndless_25 ?_
    exact Jt1 false (by exact (Eq.trans eTt1 (if_neg h1)))
  · skip
    refine wi_aload_n hC 0 d_MC_isEndless_10 rfl rfl ?_
    refine wg_MC_f hC wd_613 d_MC_isEndless_11 ?_
    refine wi_iconst hC 1 (by decide) d_MC_isEndless_14 ?_
    refine wi_lshl hC d_MC_isEndless_15 ?_
    refine wi_lconst hC 0 (by decide) d_MC_isEndless_16 ?_
    refine wi_lcmp_ne hC 25 d_MC_isEndless_17 d_MC_isEndless_18 (by decide) (fun h2 => ?_) (fun h2 => ?_)
    · skip
      refine wi_iconst hC 0 (by decide) d_MC_isEndless_25 ?_
      exact Jt1 false (by exact (Eq.trans eTt1 (Eq.trans (if_pos h1) (if_neg h2))))
    · skip
      refine wi_iconst hC 1 (by decide) d_MC_isEndless_21 ?_
      refine wi_goto hC 26 d_MC_isEndless_22 (by decide) ?_
      exact Jt1 true (by exact (Eq.trans eTt1 (Eq.trans (if_pos h1) (if_pos h2))))
theorem k_MC_isEndless {p : Program} {l : Launch} {e : Env} {R : Room} {s : State} {m : MethodId} {args : Array Value} {below : List Frame} {meth : Method} {c : Code} {Q : State → Prop} {E : Ev} {nL pc index : Nat} {lv : List (Nat × Value)} {rest : List Value} {cc : ByteArray} {own : String} {σ τ : St} {q : Int64}  (hC : Cx p s m args c cc nL own E)   (hl : Cond.methodLink own index y_MC_isEndless ∈ WL) (hR : 0 + 1 ≤ R.frames ∧ 8 + (1 + 11) + 0 ≤ R.locals) (hs8 : (rest.map fun v => v.category).sum ≤ 8) (d : decode cc pc = .ok (.invokevirtual index, 3)) (k : WS p l e R s m args below meth c Q E nL (pc + 3) lv ((.int (bI (f_MC_isEndless τ))) :: rest) (σ, τ, q)) : WS p l e R s m args below meth c Q E nL pc lv (.ref 45 :: rest) (σ, τ, q) := by
  exact wi_callV hC (n := 0) (vs := []) (rest := rest) 45 13 (by decide) rfl rfl rfl (c_MC_isEndless l E σ τ q  ) (by decide +kernel) wd_633 wd_558 wd_634 wd_635 ⟨rfl, rfl⟩ rfl rfl hl hR hs8 d k
set_option maxRecDepth 100000 in
set_option maxHeartbeats 400000 in
theorem c_MC_pack (l : Launch) (E : Ev) (σ τ : St) (q : Int64) (a1 : Int32) (a2 : Int32) (a3 : Bool) (a4 : Int64) (a5 : Int64) (hs : (a1 = 24 ∧ a2 = 8) ∨ (a1 = 53 ∧ a2 = 11)) : MF l y_MC_pack prog_13_method_23_code 8 none { frames := 3, cells := 0, slots := 0, locals := 69 } E [.ref 45, .int a1, .int a2, .int (bI a3), .long a4, .long a5] (σ, τ, q) none (σ, (f_MC_pack τ a1 a2 a3 a4 a5), q) := by
  refine MF_intro (lv0 := [(0, .ref 45), (1, .int a1), (2, .int a2), (3, .int (bI a3)), (4, .long a4), (6, .long a5)]) (by decide) wd_636 (Nat.le_of_ble_eq_true rfl) rfl ?_
  intro p e s m args below meth c Q hC hr hk hQ
  replace hC : Cx p s m args c prog_13_method_23_code 8 "PartnerStackModel$RealConversionsModel" E := hC
  refine wi_aload_n hC 0 d_MC_pack_0 rfl rfl ?_
  refine wi_iconst hC 0 (by decide) d_MC_pack_1 ?_
  refine wi_iload_n hC 1 d_MC_pack_2 rfl rfl ?_
  refine wi_iconst hC 1 (by decide) d_MC_pack_3 ?_
  refine wi_isub hC d_MC_pack_4 ?_
  refine wi_lload hC 5 d_MC_pack_5 rfl ?_
  refine k_MC_setBits hC (pk_s hs) wd_629 (by decide) (Nat.le_of_ble_eq_true rfl) d_MC_pack_7 ?_
  refine wi_nmM (fun s1 e_s1 => ?_)
  refine wi_aload_n hC 0 d_MC_pack_10 rfl rfl ?_
  refine wi_iload_n hC 1 d_MC_pack_11 rfl rfl ?_
  refine wi_iconst hC 1 (by decide) d_MC_pack_12 ?_
  refine wi_isub hC d_MC_pack_13 ?_
  refine wi_iload_n hC 2 d_MC_pack_14 rfl rfl ?_
  refine wi_lload hC 4 d_MC_pack_15 rfl ?_
  refine k_MC_setBits hC (pk_e hs) wd_629 (by decide) (Nat.le_of_ble_eq_true rfl) d_MC_pack_17 ?_
  refine wi_nmM (fun s2 e_s2 => ?_)
  refine wi_aload_n hC 0 d_MC_pack_20 rfl rfl ?_
  refine wi_iload_n hC 1 d_MC_pack_21 rfl rfl ?_
  refine wi_iconst hC 1 (by decide) d_MC_pack_22 ?_
  refine wi_isub hC d_MC_pack_23 ?_
  refine wi_iload_n hC 2 d_MC_pack_24 rfl rfl ?_
  refine wi_iadd hC d_MC_pack_25 ?_
  refine wi_iload_n hC 3 d_MC_pack_26 rfl rfl ?_
  refine k_MC_setBit hC a3 rfl (pk_b hs) wd_622 (by decide) (Nat.le_of_ble_eq_true rfl) d_MC_pack_27 ?_
  refine wi_nmM (fun s3 e_s3 => ?_)
  have hf : f_MC_pack τ a1 a2 a3 a4 a5 = s3 := by subst e_s3; subst e_s2; subst e_s1; exact rfl
  exact wi_vret hC hr hk d_MC_pack_30 rfl (congrArg (fun z => (σ, z, q)) hf).symm hQ
theorem k_MC_pack {p : Program} {l : Launch} {e : Env} {R : Room} {s : State} {m : MethodId} {args : Array Value} {below : List Frame} {meth : Method} {c : Code} {Q : State → Prop} {E : Ev} {nL pc index : Nat} {lv : List (Nat × Value)} {rest : List Value} {cc : ByteArray} {own : String} {σ τ : St} {q : Int64} {a1 : Int32} {a2 : Int32} {a4 : Int64} {a5 : Int64} (hC : Cx p s m args c cc nL own E) {x_a3 : Int32} (a3 : Bool) (hx_a3 : x_a3 = bI a3) (hs : (a1 = 24 ∧ a2 = 8) ∨ (a1 = 53 ∧ a2 = 11)) (hl : Cond.methodLink own index y_MC_pack ∈ WL) (hR : 3 + 1 ≤ R.frames ∧ 8 + (8 + 11) + 69 ≤ R.locals) (hs8 : (rest.map fun v => v.category).sum ≤ 8) (d : decode cc pc = .ok (.invokevirtual index, 3)) (k : WS p l e R s m args below meth c Q E nL (pc + 3) lv rest (σ, (f_MC_pack τ a1 a2 a3 a4 a5), q)) : WS p l e R s m args below meth c Q E nL pc lv (.long a5 :: .long a4 :: .int x_a3 :: .int a2 :: .int a1 :: .ref 45 :: rest) (σ, τ, q) := by
  subst hx_a3
  exact wi_callV hC (n := 5) (vs := [.int a1, .int a2, .int (bI a3), .long a4, .long a5]) (rest := rest) 45 13 (by decide) rfl rfl rfl (c_MC_pack l E σ τ q a1 a2 a3 a4 a5 hs) (by decide +kernel) wd_636 wd_558 wd_637 wd_638 ⟨rfl, rfl⟩ rfl rfl hl hR hs8 d k
set_option maxRecDepth 100000 in
set_option maxHeartbeats 400000 in
theorem c_MC_writeReal (l : Launch) (E : Ev) (σ τ : St) (q : Int64) (a1 : Int32) (a2 : Int32) (hs : (a1 = 24 ∧ a2 = 8) ∨ (a1 = 53 ∧ a2 = 11)) : MF l y_MC_writeReal prog_13_method_24_code 11 (some .int) { frames := 4, cells := 0, slots := 0, locals := 96 } E [.ref 45, .int a1, .int a2] (σ, τ, q) (some (.int ((f_MC_writeReal τ a1 a2).1))) (σ, (f_MC_writeReal τ a1 a2).2, q) := by
  refine MF_intro (lv0 := [(0, .ref 45), (1, .int a1), (2, .int a2)]) (by decide) wd_642 (Nat.le_of_ble_eq_true rfl) rfl ?_
  intro p e s m args below meth c Q hC hr hk hQ
  replace hC : Cx p s m args c prog_13_method_24_code 11 "PartnerStackModel$RealConversionsModel" E := hC
  refine wi_lconst hC 1 (by decide) d_MC_writeReal_0 ?_
  refine wi_iload_n hC 2 d_MC_writeReal_1 rfl rfl ?_
  refine wi_lshl hC d_MC_writeReal_2 ?_
  refine wi_lconst hC 1 (by decide) d_MC_writeReal_3 ?_
  refine wi_lsub hC d_MC_writeReal_4 ?_
  refine wi_nmJ (fun v1 e_v1 => ?_)
  refine wi_lstore_n hC [(3, .long v1), (0, .ref 45), (1, .int a1), (2, .int a2)] d_MC_writeReal_5 rfl (by decide) rfl ?_
  refine wi_iconst hC 1 (by decide) d_MC_writeReal_6 ?_
  refine wi_iload_n hC 3 d_MC_writeReal_7 rfl rfl ?_
  refine wi_iconst hC 1 (by decide) d_MC_writeReal_8 ?_
  refine wi_isub hC d_MC_writeReal_9 ?_
  refine wi_ishl hC d_MC_writeReal_10 ?_
  refine wi_nmI (fun v2 e_v2 => ?_)
  refine wi_istore hC [(5, .int v2), (3, .long v1), (0, .ref 45), (1, .int a1), (2, .int a2)] d_MC_writeReal_11 (by decide) rfl ?_
  refine wi_aload_n hC 2 d_MC_writeReal_13 rfl rfl ?_
  refine k_MC_isNumber hC  wd_626 (by decide) (Nat.le_of_ble_eq_true rfl) d_MC_writeReal_14 ?_
  have B1 : f_MC_writeReal τ a1 a2 = f_MC_writeReal_b103 τ a1 a2 v1 v2 → WS p l e { frames := 4, cells := 0, slots := 0, locals := 96 } s m args below meth c Q E 11 103 [(5, .int v2), (3, .long v1), (0, .ref 45), (1, .int a1), (2, .int a2)] [] (σ, τ, q) := by
    intro hB1
    refine wi_aload_n hC 2 d_MC_writeReal_103 rfl rfl ?_
    refine k_MC_isEndless hC  wd_639 (by decide) (Nat.le_of_ble_eq_true rfl) d_MC_writeReal_104 ?_
    have B3 : f_MC_writeReal τ a1 a2 = f_MC_writeReal_b119 τ a1 a2 v1 → WS p l e { frames := 4, cells := 0, slots := 0, locals := 96 } s m args below meth c Q E 11 119 [(5, .int v2), (3, .long v1), (0, .ref 45), (1, .int a1), (2, .int a2)] [] (σ, τ, q) := by
      intro hB3
      refine wi_aload_n hC 2 d_MC_writeReal_119 rfl rfl ?_
      refine wi_iload_n hC 3 d_MC_writeReal_120 rfl rfl ?_
      refine wi_iload_n hC 4 d_MC_writeReal_121 rfl rfl ?_
      refine wi_aload_n hC 2 d_MC_writeReal_122 rfl rfl ?_
      refine wg_MC_minus hC wd_615 d_MC_writeReal_123 ?_
      refine wi_aload_n hC 2 d_MC_writeReal_126 rfl rfl ?_
      refine k_MC_isEndless hC  wd_639 (by decide) (Nat.le_of_ble_eq_true rfl) d_MC_writeReal_127 ?_
      obtain ⟨Tt20, eTt20⟩ : ∃ y : Int64, y = (
              if f_MC_isEndless τ = true then
                v1
              else
                0) := ⟨_, rfl⟩
      have Jt20 : ∀ (t20 : Int64), Tt20 = t20 → WS p l e { frames := 4, cells := 0, slots := 0, locals := 96 } s m args below meth c Q E 11 138 [(5, .int v2), (3, .long v1), (0, .ref 45), (1, .int a1), (2, .int a2)] [.long t20, .int (bI (gZ τ 39 45)), .int a2, .int a1, .ref 45] (σ, τ, q) := by
        intro t20  e_t20
        rw [eTt20] at e_t20
        refine wi_lconst hC 0 (by decide) d_MC_writeReal_138 ?_
        refine k_MC_pack hC (gZ τ 39 45) rfl hs wd_640 (by decide) (Nat.le_of_ble_eq_true rfl) d_MC_writeReal_139 ?_
        refine wi_nmM (fun s8 e_s8 => ?_)
        refine wi_iconst hC 0 (by decide) d_MC_writeReal_142 ?_
        have hf : f_MC_writeReal τ a1 a2 = (0, s8) := by subst e_s8; subst e_t20; exact hB3
        exact wi_iret hC hr hk d_MC_writeReal_143 (congrArg (fun z => some (Value.int z.1)) hf) (congrArg (fun z => (σ, z.2, q)) hf).symm hQ
      refine wi_z_eq (b := (f_MC_isEndless τ)) hC 137 d_MC_writeReal_130 (by decide) (fun h29 => ?_) (fun h29 => ?_)
      · skip
        refine wi_lconst hC 0 (by decide) d_MC_writeReal_137 ?_
        exact Jt20 0 (by exact (Eq.trans eTt20 (if_neg h29)))
      · skip
        refine wi_lload_n hC 1 d_MC_writeReal_133 rfl rfl ?_
        refine wi_goto hC 138 d_MC_writeReal_134 (by decide) ?_
        exact Jt20 v1 (by exact (Eq.trans eTt20 (if_pos h29)))
    refine wi_z_ne (b := (f_MC_isEndless τ)) hC 119 d_MC_writeReal_107 (by decide) (fun h6 => ?_) (fun h6 => ?_)
    · skip
      exact B3   (by exact (Eq.trans hB1 (if_pos h6)))
    · skip
      refine wi_aload_n hC 2 d_MC_writeReal_110 rfl rfl ?_
      refine wg_MC_f hC wd_613 d_MC_writeReal_111 ?_
      refine wi_lconst hC 0 (by decide) d_MC_writeReal_114 ?_
      refine wi_lcmp_ne hC 144 d_MC_writeReal_115 d_MC_writeReal_116 (by decide) (fun h7 => ?_) (fun h7 => ?_)
      · skip
        refine wi_aload_n hC 2 d_MC_writeReal_144 rfl rfl ?_
        refine wg_MC_p hC wd_604 d_MC_writeReal_145 ?_
        have B2 : f_MC_writeReal τ a1 a2 = f_MC_writeReal_b188 τ a1 a2 v1 v2 → WS p l e { frames := 4, cells := 0, slots := 0, locals := 96 } s m args below meth c Q E 11 188 [(5, .int v2), (3, .long v1), (0, .ref 45), (1, .int a1), (2, .int a2)] [] (σ, τ, q) := by
          intro hB2
          refine wi_bipush hC 63 (by decide) d_MC_writeReal_188 ?_
          refine wi_istore hC [(6, .int 63), (5, .int v2), (3, .long v1), (0, .ref 45), (1, .int a1), (2, .int a2)] d_MC_writeReal_190 (by decide) rfl ?_
          refine wi_loop ((b_MC_writeReal_192 τ)) (fun t7 => True) (fun t7 => [(6, .int t7), (5, .int v2), (3, .long v1), (0, .ref 45), (1, .int a1), (2, .int a2)]) (fun t7 => (σ, τ, q)) 212 ?_ (fun _ _ _ _ => trivial) (65) 63 trivial (bit_halt (w := gJ τ 41 45) (by assumption) (b := (b_MC_writeReal_192 τ)) (fun _ => rfl)) ?_
          · intro t7 hi_t7 hc_t7 hx_t7
            refine wi_aload_n hC 3 d_MC_writeReal_192 rfl rfl ?_
            refine wg_MC_f hC wd_613 d_MC_writeReal_193 ?_
            refine wi_iload hC 0 d_MC_writeReal_196 rfl ?_
            refine wi_lshr hC d_MC_writeReal_198 ?_
            refine wi_lconst hC 1 (by decide) d_MC_writeReal_199 ?_
            refine wi_land hC d_MC_writeReal_200 ?_
            refine wi_lconst hC 0 (by decide) d_MC_writeReal_201 ?_
            refine wi_lcmp_ne hC 212 d_MC_writeReal_202 d_MC_writeReal_203 (by decide) (fun h11 => ?_) (fun h11 => ?_)
            · skip
              exact hx_t7 t7 (by exact (if_neg h11))
            · skip
              obtain ⟨v5, e_v5⟩ : ∃ y : Int32, t7 + (-1) = y := ⟨_, rfl⟩
              refine wi_iinc hC 0 v5 [(6, .int v5), (5, .int v2), (3, .long v1), (0, .ref 45), (1, .int a1), (2, .int a2)] d_MC_writeReal_206 rfl (by rw [← e_v5]; rfl) (by decide) rfl ?_
              refine wi_goto hC 192 d_MC_writeReal_209 (by decide) ?_
              exact hc_t7 v5 (by subst e_v5; exact (if_pos h11))
          obtain ⟨t6, e_t6⟩ : ∃ y : Int32, lpn ((b_MC_writeReal_192 τ)) (65) 63 = y := ⟨_, rfl⟩
          rw [e_t6]
          refine wi_aload_n hC 3 d_MC_writeReal_212 rfl rfl ?_
          refine wg_MC_p hC wd_604 d_MC_writeReal_213 ?_
          obtain ⟨Tt8, eTt8⟩ : ∃ y : Int32, y = (
                  if gI τ 40 45 = 0 then
                    1
                  else
                    gI τ 40 45) := ⟨_, rfl⟩
          have Jt8 : ∀ (t8 : Int32), Tt8 = t8 → WS p l e { frames := 4, cells := 0, slots := 0, locals := 96 } s m args below meth c Q E 11 227 [(6, .int t6), (5, .int v2), (3, .long v1), (0, .ref 45), (1, .int a1), (2, .int a2)] [.int t8] (σ, τ, q) := by
            intro t8  e_t8
            rw [eTt8] at e_t8
            refine wi_sipush hC 16446 (by decide) d_MC_writeReal_227 ?_
            refine wi_isub hC d_MC_writeReal_230 ?_
            refine wi_iload hC 0 d_MC_writeReal_231 rfl ?_
            refine wi_iadd hC d_MC_writeReal_233 ?_
            refine wi_nmI (fun v6 e_v6 => ?_)
            refine wi_istore hC [(7, .int v6), (6, .int t6), (5, .int v2), (3, .long v1), (0, .ref 45), (1, .int a1), (2, .int a2)] d_MC_writeReal_234 (by decide) rfl ?_
            refine wi_iload hC 0 d_MC_writeReal_236 rfl ?_
            refine wi_iconst hC 2 (by decide) d_MC_writeReal_238 ?_
            refine wi_iload hC 2 d_MC_writeReal_239 rfl ?_
            refine wi_isub hC d_MC_writeReal_241 ?_
            refine wi_icmp_ge hC 329 d_MC_writeReal_242 (by decide) (fun h13 => ?_) (fun h13 => ?_)
            · skip
              refine wi_aload_n hC 4 d_MC_writeReal_329 rfl rfl ?_
              refine wi_iload hC 0 d_MC_writeReal_330 rfl ?_
              refine wi_iconst hC 1 (by decide) d_MC_writeReal_332 ?_
              refine wi_iadd hC d_MC_writeReal_333 ?_
              refine wi_iload_n hC 5 d_MC_writeReal_334 rfl rfl ?_
              refine wi_isub hC d_MC_writeReal_335 ?_
              refine wi_aload_n hC 4 d_MC_writeReal_336 rfl rfl ?_
              refine k_MC_way hC  wd_627 (by decide) (Nat.le_of_ble_eq_true rfl) d_MC_writeReal_337 ?_
              refine k_MC_round hC  wd_628 (by decide) (Nat.le_of_ble_eq_true rfl) d_MC_writeReal_340 ?_
              refine wi_nmM (fun s3 e_s3 => ?_)
              refine wi_aload_n hC 4 d_MC_writeReal_343 rfl rfl ?_
              refine wg_MC_units hC wd_611 d_MC_writeReal_344 ?_
              refine wi_iload_n hC 5 d_MC_writeReal_347 rfl rfl ?_
              refine wi_lshr hC d_MC_writeReal_348 ?_
              refine wi_lconst hC 1 (by decide) d_MC_writeReal_349 ?_
              obtain ⟨Tt9, eTt9⟩ : ∃ y : Bool, y = (
                      if jlshr (gJ s3 42 45) a1 = 1 then
                        true
                      else
                        false) := ⟨_, rfl⟩
              have Jt9 : ∀ (t9 : Bool), Tt9 = t9 → WS p l e { frames := 4, cells := 0, slots := 0, locals := 96 } s m args below meth c Q E 11 359 [(7, .int v6), (6, .int t6), (5, .int v2), (3, .long v1), (0, .ref 45), (1, .int a1), (2, .int a2)] [.int (bI t9)] (σ, s3, q) := by
                intro t9  e_t9
                rw [eTt9] at e_t9
                refine wi_istore hC [(8, .int (bI t9)), (7, .int v6), (6, .int t6), (5, .int v2), (3, .long v1), (0, .ref 45), (1, .int a1), (2, .int a2)] d_MC_writeReal_359 (by decide) rfl ?_
                refine wi_iload hC 0 d_MC_writeReal_361 rfl ?_
                obtain ⟨Tt10, eTt10⟩ : ∃ y : Int32, y = (
                        if t9 = true then
                          v6 + 1
                        else
                          v6) := ⟨_, rfl⟩
                have Jt10 : ∀ (t10 : Int32), Tt10 = t10 → WS p l e { frames := 4, cells := 0, slots := 0, locals := 96 } s m args below meth c Q E 11 375 [(8, .int (bI t9)), (7, .int v6), (6, .int t6), (5, .int v2), (3, .long v1), (0, .ref 45), (1, .int a1), (2, .int a2)] [.int t10] (σ, s3, q) := by
                  intro t10  e_t10
                  rw [eTt10] at e_t10
                  refine wi_istore hC [(9, .int t10), (8, .int (bI t9)), (7, .int v6), (6, .int t6), (5, .int v2), (3, .long v1), (0, .ref 45), (1, .int a1), (2, .int a2)] d_MC_writeReal_375 (by decide) rfl ?_
                  refine wi_iload hC 0 d_MC_writeReal_377 rfl ?_
                  refine wi_iload hC 4 d_MC_writeReal_379 rfl ?_
                  refine wi_icmp_ge hC 429 d_MC_writeReal_381 (by decide) (fun h16 => ?_) (fun h16 => ?_)
                  · skip
                    refine wi_aload_n hC 6 d_MC_writeReal_429 rfl rfl ?_
                    refine wi_bipush hC 8 (by decide) d_MC_writeReal_430 ?_
                    refine k_MC_masked hC (by decide) wd_585 (by decide) (Nat.le_of_ble_eq_true rfl) d_MC_writeReal_432 ?_
                    refine wi_z_ne (b := (f_MC_masked s3 8)) hC 441 d_MC_writeReal_435 (by decide) (fun h17 => ?_) (fun h17 => ?_)
                    · skip
                      refine wi_aload_n hC 6 d_MC_writeReal_441 rfl rfl ?_
                      refine k_MC_way hC  wd_627 (by decide) (Nat.le_of_ble_eq_true rfl) d_MC_writeReal_442 ?_
                      obtain ⟨Tt11, eTt11⟩ : ∃ y : Bool, y = (
                              if f_MC_way s3 = 0 then
                                true
                              else
                                let t12 : Int32 := 
                                    if gZ s3 39 45 = true then
                                      1
                                    else
                                      2
                                if f_MC_way s3 = t12 then
                                  true
                                else
                                  false) := ⟨_, rfl⟩
                      have Jt11 : ∀ (t11 : Bool), Tt11 = t11 → WS p l e { frames := 4, cells := 0, slots := 0, locals := 96 } s m args below meth c Q E 11 472 [(9, .int t10), (8, .int (bI t9)), (7, .int v6), (6, .int t6), (5, .int v2), (3, .long v1), (0, .ref 45), (1, .int a1), (2, .int a2)] [.int (bI t11)] (σ, s3, q) := by
                        intro t11  e_t11
                        rw [eTt11] at e_t11
                        refine wi_istore hC [(10, .int (bI t11)), (9, .int t10), (8, .int (bI t9)), (7, .int v6), (6, .int t6), (5, .int v2), (3, .long v1), (0, .ref 45), (1, .int a1), (2, .int a2)] d_MC_writeReal_472 (by decide) rfl ?_
                        refine wi_aload_n hC 7 d_MC_writeReal_474 rfl rfl ?_
                        refine wi_iload_n hC 8 d_MC_writeReal_475 rfl rfl ?_
                        refine wi_iload_n hC 9 d_MC_writeReal_476 rfl rfl ?_
                        refine wi_aload_n hC 7 d_MC_writeReal_477 rfl rfl ?_
                        refine wg_MC_minus hC wd_615 d_MC_writeReal_478 ?_
                        refine wi_iload hC 0 d_MC_writeReal_481 rfl ?_
                        obtain ⟨Tt13, eTt13⟩ : ∃ y : Int64, y = (
                                if t11 = true then
                                  v1
                                else
                                  v1 - 1) := ⟨_, rfl⟩
                        have Jt13 : ∀ (t13 : Int64), Tt13 = t13 → WS p l e { frames := 4, cells := 0, slots := 0, locals := 96 } s m args below meth c Q E 11 493 [(10, .int (bI t11)), (9, .int t10), (8, .int (bI t9)), (7, .int v6), (6, .int t6), (5, .int v2), (3, .long v1), (0, .ref 45), (1, .int a1), (2, .int a2)] [.long t13, .int (bI (gZ s3 39 45)), .int a2, .int a1, .ref 45] (σ, s3, q) := by
                          intro t13  e_t13
                          rw [eTt13] at e_t13
                          refine wi_iload hC 0 d_MC_writeReal_493 rfl ?_
                          obtain ⟨Tt14, eTt14⟩ : ∃ y : Int64, y = (
                                  if t11 = true then
                                    0
                                  else
                                    (-1)) := ⟨_, rfl⟩
                          have Jt14 : ∀ (t14 : Int64), Tt14 = t14 → WS p l e { frames := 4, cells := 0, slots := 0, locals := 96 } s m args below meth c Q E 11 505 [(10, .int (bI t11)), (9, .int t10), (8, .int (bI t9)), (7, .int v6), (6, .int t6), (5, .int v2), (3, .long v1), (0, .ref 45), (1, .int a1), (2, .int a2)] [.long t14, .long t13, .int (bI (gZ s3 39 45)), .int a2, .int a1, .ref 45] (σ, s3, q) := by
                            intro t14  e_t14
                            rw [eTt14] at e_t14
                            refine k_MC_pack hC (gZ s3 39 45) rfl hs wd_640 (by decide) (Nat.le_of_ble_eq_true rfl) d_MC_writeReal_505 ?_
                            refine wi_nmM (fun s4 e_s4 => ?_)
                            refine wi_bipush hC 40 (by decide) d_MC_writeReal_508 ?_
                            have hf : f_MC_writeReal τ a1 a2 = (40, s4) := by subst e_s4; subst e_t14; subst e_t13; subst e_t11; subst e_t10; subst e_t9; subst e_s3; subst e_v6; subst e_t8; subst e_t6; exact (Eq.trans hB2 (Eq.trans (if_pos h13) (Eq.trans (if_pos h16) (if_pos h17))))
                            exact wi_iret hC hr hk d_MC_writeReal_510 (congrArg (fun z => some (Value.int z.1)) hf) (congrArg (fun z => (σ, z.2, q)) hf).symm hQ
                          refine wi_z_eq (b := t11) hC 502 d_MC_writeReal_495 (by decide) (fun h22 => ?_) (fun h22 => ?_)
                          · skip
                            refine wi_ldc2 hC wd_641 d_MC_writeReal_502 ?_
                            exact Jt14 (-1) (by exact (Eq.trans eTt14 (if_neg h22)))
                          · skip
                            refine wi_lconst hC 0 (by decide) d_MC_writeReal_498 ?_
                            refine wi_goto hC 505 d_MC_writeReal_499 (by decide) ?_
                            exact Jt14 0 (by exact (Eq.trans eTt14 (if_pos h22)))
                        refine wi_z_eq (b := t11) hC 490 d_MC_writeReal_483 (by decide) (fun h21 => ?_) (fun h21 => ?_)
                        · skip
                          refine wi_lload_n hC 6 d_MC_writeReal_490 rfl rfl ?_
                          refine wi_lconst hC 1 (by decide) d_MC_writeReal_491 ?_
                          refine wi_lsub hC d_MC_writeReal_492 ?_
                          exact Jt13 (v1 - 1) (by exact (Eq.trans eTt13 (if_neg h21)))
                        · skip
                          refine wi_lload_n hC 6 d_MC_writeReal_486 rfl rfl ?_
                          refine wi_goto hC 493 d_MC_writeReal_487 (by decide) ?_
                          exact Jt13 v1 (by exact (Eq.trans eTt13 (if_pos h21)))
                      refine wi_if_eq hC 467 d_MC_writeReal_445 (by decide) (fun h18 => ?_) (fun h18 => ?_)
                      · skip
                        refine wi_iconst hC 1 (by decide) d_MC_writeReal_467 ?_
                        refine wi_goto hC 472 d_MC_writeReal_468 (by decide) ?_
                        exact Jt11 true (by exact (Eq.trans eTt11 (if_pos h18)))
                      · skip
                        refine wi_aload_n hC 6 d_MC_writeReal_448 rfl rfl ?_
                        refine k_MC_way hC  wd_627 (by decide) (Nat.le_of_ble_eq_true rfl) d_MC_writeReal_449 ?_
                        refine wi_aload_n hC 6 d_MC_writeReal_452 rfl rfl ?_
                        refine wg_MC_minus hC wd_615 d_MC_writeReal_453 ?_
                        obtain ⟨Tt12, eTt12⟩ : ∃ y : Int32, y = (
                                if gZ s3 39 45 = true then
                                  1
                                else
                                  2) := ⟨_, rfl⟩
                        have Jt12 : ∀ (t12 : Int32), Tt12 = t12 → WS p l e { frames := 4, cells := 0, slots := 0, locals := 96 } s m args below meth c Q E 11 464 [(9, .int t10), (8, .int (bI t9)), (7, .int v6), (6, .int t6), (5, .int v2), (3, .long v1), (0, .ref 45), (1, .int a1), (2, .int a2)] [.int t12, .int (f_MC_way s3)] (σ, s3, q) := by
                          intro t12  e_t12
                          rw [eTt12] at e_t12
                          refine wi_icmp_ne hC 471 d_MC_writeReal_464 (by decide) (fun h20 => ?_) (fun h20 => ?_)
                          · skip
                            refine wi_iconst hC 0 (by decide) d_MC_writeReal_471 ?_
                            exact Jt11 false (by subst e_t12; exact (Eq.trans eTt11 (Eq.trans (if_neg h18) (if_neg h20))))
                          · skip
                            refine wi_iconst hC 1 (by decide) d_MC_writeReal_467 ?_
                            refine wi_goto hC 472 d_MC_writeReal_468 (by decide) ?_
                            exact Jt11 true (by subst e_t12; exact (Eq.trans eTt11 (Eq.trans (if_neg h18) (if_pos h20))))
                        refine wi_z_eq (b := (gZ s3 39 45)) hC 463 d_MC_writeReal_456 (by decide) (fun h19 => ?_) (fun h19 => ?_)
                        · skip
                          refine wi_iconst hC 2 (by decide) d_MC_writeReal_463 ?_
                          exact Jt12 2 (by exact (Eq.trans eTt12 (if_neg h19)))
                        · skip
                          refine wi_iconst hC 1 (by decide) d_MC_writeReal_459 ?_
                          refine wi_goto hC 464 d_MC_writeReal_460 (by decide) ?_
                          exact Jt12 1 (by exact (Eq.trans eTt12 (if_pos h19)))
                    · skip
                      refine wi_bipush hC 8 (by decide) d_MC_writeReal_438 ?_
                      have hf : f_MC_writeReal τ a1 a2 = (8, s3) := by subst e_t10; subst e_t9; subst e_s3; subst e_v6; subst e_t8; subst e_t6; exact (Eq.trans hB2 (Eq.trans (if_pos h13) (Eq.trans (if_pos h16) (if_neg h17))))
                      exact wi_iret hC hr hk d_MC_writeReal_440 (congrArg (fun z => some (Value.int z.1)) hf) (congrArg (fun z => (σ, z.2, q)) hf).symm hQ
                  · skip
                    refine wi_aload_n hC 6 d_MC_writeReal_384 rfl rfl ?_
                    refine wi_iload_n hC 7 d_MC_writeReal_385 rfl rfl ?_
                    refine wi_iload_n hC 8 d_MC_writeReal_386 rfl rfl ?_
                    refine wi_aload_n hC 6 d_MC_writeReal_387 rfl rfl ?_
                    refine wg_MC_minus hC wd_615 d_MC_writeReal_388 ?_
                    refine wi_iload hC 0 d_MC_writeReal_391 rfl ?_
                    refine wi_iload hC 4 d_MC_writeReal_393 rfl ?_
                    refine wi_iadd hC d_MC_writeReal_395 ?_
                    refine wi_iconst hC 1 (by decide) d_MC_writeReal_396 ?_
                    refine wi_isub hC d_MC_writeReal_397 ?_
                    refine wi_i2l hC d_MC_writeReal_398 ?_
                    refine wi_iload hC 1 d_MC_writeReal_399 rfl ?_
                    obtain ⟨Tt15, eTt15⟩ : ∃ y : Int64, y = (
                            if t9 = true then
                              0
                            else
                              gJ s3 42 45) := ⟨_, rfl⟩
                    have Jt15 : ∀ (t15 : Int64), Tt15 = t15 → WS p l e { frames := 4, cells := 0, slots := 0, locals := 96 } s m args below meth c Q E 11 412 [(9, .int t10), (8, .int (bI t9)), (7, .int v6), (6, .int t6), (5, .int v2), (3, .long v1), (0, .ref 45), (1, .int a1), (2, .int a2)] [.long t15, .long (Int32.toInt64 ((t10 + v2) - 1)), .int (bI (gZ s3 39 45)), .int a2, .int a1, .ref 45] (σ, s3, q) := by
                      intro t15  e_t15
                      rw [eTt15] at e_t15
                      refine k_MC_pack hC (gZ s3 39 45) rfl hs wd_640 (by decide) (Nat.le_of_ble_eq_true rfl) d_MC_writeReal_412 ?_
                      refine wi_nmM (fun s5 e_s5 => ?_)
                      refine wi_aload_n hC 6 d_MC_writeReal_415 rfl rfl ?_
                      refine wg_MC_lossy hC wd_614 d_MC_writeReal_416 ?_
                      obtain ⟨Tt16, eTt16⟩ : ∃ y : Int32, y = (
                              if gZ s5 44 45 = true then
                                32
                              else
                                0) := ⟨_, rfl⟩
                      have Jt16 : ∀ (t16 : Int32), Tt16 = t16 → WS p l e { frames := 4, cells := 0, slots := 0, locals := 96 } s m args below meth c Q E 11 428 [(9, .int t10), (8, .int (bI t9)), (7, .int v6), (6, .int t6), (5, .int v2), (3, .long v1), (0, .ref 45), (1, .int a1), (2, .int a2)] [.int t16] (σ, s5, q) := by
                        intro t16  e_t16
                        rw [eTt16] at e_t16
                        have hf : f_MC_writeReal τ a1 a2 = (t16, s5) := by subst e_t16; subst e_s5; subst e_t15; subst e_t10; subst e_t9; subst e_s3; subst e_v6; subst e_t8; subst e_t6; exact (Eq.trans hB2 (Eq.trans (if_pos h13) (if_neg h16)))
                        exact wi_iret hC hr hk d_MC_writeReal_428 (congrArg (fun z => some (Value.int z.1)) hf) (congrArg (fun z => (σ, z.2, q)) hf).symm hQ
                      refine wi_z_eq (b := (gZ s5 44 45)) hC 427 d_MC_writeReal_419 (by decide) (fun h24 => ?_) (fun h24 => ?_)
                      · skip
                        refine wi_iconst hC 0 (by decide) d_MC_writeReal_427 ?_
                        exact Jt16 0 (by exact (Eq.trans eTt16 (if_neg h24)))
                      · skip
                        refine wi_bipush hC 32 (by decide) d_MC_writeReal_422 ?_
                        refine wi_goto hC 428 d_MC_writeReal_424 (by decide) ?_
                        exact Jt16 32 (by exact (Eq.trans eTt16 (if_pos h24)))
                    refine wi_z_eq (b := t9) hC 408 d_MC_writeReal_401 (by decide) (fun h23 => ?_) (fun h23 => ?_)
                    · skip
                      refine wi_aload_n hC 6 d_MC_writeReal_408 rfl rfl ?_
                      refine wg_MC_units hC wd_611 d_MC_writeReal_409 ?_
                      exact Jt15 (gJ s3 42 45) (by exact (Eq.trans eTt15 (if_neg h23)))
                    · skip
                      refine wi_lconst hC 0 (by decide) d_MC_writeReal_404 ?_
                      refine wi_goto hC 412 d_MC_writeReal_405 (by decide) ?_
                      exact Jt15 0 (by exact (Eq.trans eTt15 (if_pos h23)))
                refine wi_z_eq (b := t9) hC 373 d_MC_writeReal_363 (by decide) (fun h15 => ?_) (fun h15 => ?_)
                · skip
                  refine wi_iload hC 1 d_MC_writeReal_373 rfl ?_
                  exact Jt10 v6 (by exact (Eq.trans eTt10 (if_neg h15)))
                · skip
                  refine wi_iload hC 1 d_MC_writeReal_366 rfl ?_
                  refine wi_iconst hC 1 (by decide) d_MC_writeReal_368 ?_
                  refine wi_iadd hC d_MC_writeReal_369 ?_
                  refine wi_goto hC 375 d_MC_writeReal_370 (by decide) ?_
                  exact Jt10 (v6 + 1) (by exact (Eq.trans eTt10 (if_pos h15)))
              refine wi_lcmp_ne hC 358 d_MC_writeReal_350 d_MC_writeReal_351 (by decide) (fun h14 => ?_) (fun h14 => ?_)
              · skip
                refine wi_iconst hC 0 (by decide) d_MC_writeReal_358 ?_
                exact Jt9 false (by exact (Eq.trans eTt9 (if_neg h14)))
              · skip
                refine wi_iconst hC 1 (by decide) d_MC_writeReal_354 ?_
                refine wi_goto hC 359 d_MC_writeReal_355 (by decide) ?_
                exact Jt9 true (by exact (Eq.trans eTt9 (if_pos h14)))
            · skip
              refine wi_aload_n hC 4 d_MC_writeReal_245 rfl rfl ?_
              refine wi_bipush hC 16 (by decide) d_MC_writeReal_246 ?_
              refine k_MC_masked hC (by decide) wd_585 (by decide) (Nat.le_of_ble_eq_true rfl) d_MC_writeReal_248 ?_
              refine wi_z_ne (b := (f_MC_masked τ 16)) hC 257 d_MC_writeReal_251 (by decide) (fun h25 => ?_) (fun h25 => ?_)
              · skip
                refine wi_aload_n hC 4 d_MC_writeReal_257 rfl rfl ?_
                refine wi_iconst hC 3 (by decide) d_MC_writeReal_258 ?_
                refine wi_iload hC 2 d_MC_writeReal_259 rfl ?_
                refine wi_isub hC d_MC_writeReal_261 ?_
                refine wi_iload_n hC 5 d_MC_writeReal_262 rfl rfl ?_
                refine wi_isub hC d_MC_writeReal_263 ?_
                refine wi_aload_n hC 4 d_MC_writeReal_264 rfl rfl ?_
                refine k_MC_way hC  wd_627 (by decide) (Nat.le_of_ble_eq_true rfl) d_MC_writeReal_265 ?_
                refine k_MC_round hC  wd_628 (by decide) (Nat.le_of_ble_eq_true rfl) d_MC_writeReal_268 ?_
                refine wi_nmM (fun s6 e_s6 => ?_)
                refine wi_aload_n hC 4 d_MC_writeReal_271 rfl rfl ?_
                refine wg_MC_units hC wd_611 d_MC_writeReal_272 ?_
                refine wi_iload_n hC 5 d_MC_writeReal_275 rfl rfl ?_
                refine wi_iconst hC 1 (by decide) d_MC_writeReal_276 ?_
                refine wi_isub hC d_MC_writeReal_277 ?_
                refine wi_lshr hC d_MC_writeReal_278 ?_
                refine wi_lconst hC 1 (by decide) d_MC_writeReal_279 ?_
                obtain ⟨Tt17, eTt17⟩ : ∃ y : Bool, y = (
                        if jlshr (gJ s6 42 45) (a1 - 1) = 1 then
                          true
                        else
                          false) := ⟨_, rfl⟩
                have Jt17 : ∀ (t17 : Bool), Tt17 = t17 → WS p l e { frames := 4, cells := 0, slots := 0, locals := 96 } s m args below meth c Q E 11 289 [(7, .int v6), (6, .int t6), (5, .int v2), (3, .long v1), (0, .ref 45), (1, .int a1), (2, .int a2)] [.int (bI t17)] (σ, s6, q) := by
                  intro t17  e_t17
                  rw [eTt17] at e_t17
                  refine wi_istore hC [(8, .int (bI t17)), (7, .int v6), (6, .int t6), (5, .int v2), (3, .long v1), (0, .ref 45), (1, .int a1), (2, .int a2)] d_MC_writeReal_289 (by decide) rfl ?_
                  refine wi_aload_n hC 5 d_MC_writeReal_291 rfl rfl ?_
                  refine wi_iload_n hC 6 d_MC_writeReal_292 rfl rfl ?_
                  refine wi_iload_n hC 7 d_MC_writeReal_293 rfl rfl ?_
                  refine wi_aload_n hC 5 d_MC_writeReal_294 rfl rfl ?_
                  refine wg_MC_minus hC wd_615 d_MC_writeReal_295 ?_
                  refine wi_iload hC 0 d_MC_writeReal_298 rfl ?_
                  obtain ⟨Tt18, eTt18⟩ : ∃ y : Int64, y = (
                          if t17 = true then
                            1
                          else
                            0) := ⟨_, rfl⟩
                  have Jt18 : ∀ (t18 : Int64), Tt18 = t18 → WS p l e { frames := 4, cells := 0, slots := 0, locals := 96 } s m args below meth c Q E 11 308 [(8, .int (bI t17)), (7, .int v6), (6, .int t6), (5, .int v2), (3, .long v1), (0, .ref 45), (1, .int a1), (2, .int a2)] [.long t18, .int (bI (gZ s6 39 45)), .int a2, .int a1, .ref 45] (σ, s6, q) := by
                    intro t18  e_t18
                    rw [eTt18] at e_t18
                    refine wi_aload_n hC 5 d_MC_writeReal_308 rfl rfl ?_
                    refine wg_MC_units hC wd_611 d_MC_writeReal_309 ?_
                    refine k_MC_pack hC (gZ s6 39 45) rfl hs wd_640 (by decide) (Nat.le_of_ble_eq_true rfl) d_MC_writeReal_312 ?_
                    refine wi_nmM (fun s7 e_s7 => ?_)
                    refine wi_aload_n hC 5 d_MC_writeReal_315 rfl rfl ?_
                    refine wg_MC_lossy hC wd_614 d_MC_writeReal_316 ?_
                    obtain ⟨Tt19, eTt19⟩ : ∃ y : Int32, y = (
                            if gZ s7 44 45 = true then
                              48
                            else
                              0) := ⟨_, rfl⟩
                    have Jt19 : ∀ (t19 : Int32), Tt19 = t19 → WS p l e { frames := 4, cells := 0, slots := 0, locals := 96 } s m args below meth c Q E 11 328 [(8, .int (bI t17)), (7, .int v6), (6, .int t6), (5, .int v2), (3, .long v1), (0, .ref 45), (1, .int a1), (2, .int a2)] [.int t19] (σ, s7, q) := by
                      intro t19  e_t19
                      rw [eTt19] at e_t19
                      have hf : f_MC_writeReal τ a1 a2 = (t19, s7) := by subst e_t19; subst e_s7; subst e_t18; subst e_t17; subst e_s6; subst e_v6; subst e_t8; subst e_t6; exact (Eq.trans hB2 (Eq.trans (if_neg h13) (if_pos h25)))
                      exact wi_iret hC hr hk d_MC_writeReal_328 (congrArg (fun z => some (Value.int z.1)) hf) (congrArg (fun z => (σ, z.2, q)) hf).symm hQ
                    refine wi_z_eq (b := (gZ s7 44 45)) hC 327 d_MC_writeReal_319 (by decide) (fun h28 => ?_) (fun h28 => ?_)
                    · skip
                      refine wi_iconst hC 0 (by decide) d_MC_writeReal_327 ?_
                      exact Jt19 0 (by exact (Eq.trans eTt19 (if_neg h28)))
                    · skip
                      refine wi_bipush hC 48 (by decide) d_MC_writeReal_322 ?_
                      refine wi_goto hC 328 d_MC_writeReal_324 (by decide) ?_
                      exact Jt19 48 (by exact (Eq.trans eTt19 (if_pos h28)))
                  refine wi_z_eq (b := t17) hC 307 d_MC_writeReal_300 (by decide) (fun h27 => ?_) (fun h27 => ?_)
                  · skip
                    refine wi_lconst hC 0 (by decide) d_MC_writeReal_307 ?_
                    exact Jt18 0 (by exact (Eq.trans eTt18 (if_neg h27)))
                  · skip
                    refine wi_lconst hC 1 (by decide) d_MC_writeReal_303 ?_
                    refine wi_goto hC 308 d_MC_writeReal_304 (by decide) ?_
                    exact Jt18 1 (by exact (Eq.trans eTt18 (if_pos h27)))
                refine wi_lcmp_ne hC 288 d_MC_writeReal_280 d_MC_writeReal_281 (by decide) (fun h26 => ?_) (fun h26 => ?_)
                · skip
                  refine wi_iconst hC 0 (by decide) d_MC_writeReal_288 ?_
                  exact Jt17 false (by exact (Eq.trans eTt17 (if_neg h26)))
                · skip
                  refine wi_iconst hC 1 (by decide) d_MC_writeReal_284 ?_
                  refine wi_goto hC 289 d_MC_writeReal_285 (by decide) ?_
                  exact Jt17 true (by exact (Eq.trans eTt17 (if_pos h26)))
              · skip
                refine wi_bipush hC 16 (by decide) d_MC_writeReal_254 ?_
                have hf : f_MC_writeReal τ a1 a2 = (16, τ) := by subst e_v6; subst e_t8; subst e_t6; exact (Eq.trans hB2 (Eq.trans (if_neg h13) (if_neg h25)))
                exact wi_iret hC hr hk d_MC_writeReal_256 (congrArg (fun z => some (Value.int z.1)) hf) (congrArg (fun z => (σ, z.2, q)) hf).symm hQ
          refine wi_if_ne hC 223 d_MC_writeReal_216 (by decide) (fun h12 => ?_) (fun h12 => ?_)
          · skip
            refine wi_aload_n hC 3 d_MC_writeReal_223 rfl rfl ?_
            refine wg_MC_p hC wd_604 d_MC_writeReal_224 ?_
            exact Jt8 (gI τ 40 45) (by exact (Eq.trans eTt8 (if_neg h12)))
          · skip
            refine wi_iconst hC 1 (by decide) d_MC_writeReal_219 ?_
            refine wi_goto hC 227 d_MC_writeReal_220 (by decide) ?_
            exact Jt8 1 (by exact (Eq.trans eTt8 (if_pos h12)))
        refine wi_if_le hC 188 d_MC_writeReal_148 (by decide) (fun h8 => ?_) (fun h8 => ?_)
        · skip
          exact B2   (by exact (Eq.trans hB1 (Eq.trans (if_neg h6) (Eq.trans (if_neg h7) (if_pos h8)))))
        · skip
          refine wi_aload_n hC 2 d_MC_writeReal_151 rfl rfl ?_
          refine wg_MC_f hC wd_613 d_MC_writeReal_152 ?_
          refine wi_bipush hC 63 (by decide) d_MC_writeReal_155 ?_
          refine wi_lshr hC d_MC_writeReal_157 ?_
          refine wi_lconst hC 1 (by decide) d_MC_writeReal_158 ?_
          refine wi_land hC d_MC_writeReal_159 ?_
          refine wi_lconst hC 0 (by decide) d_MC_writeReal_160 ?_
          refine wi_lcmp_ne hC 188 d_MC_writeReal_161 d_MC_writeReal_162 (by decide) (fun h9 => ?_) (fun h9 => ?_)
          · skip
            exact B2   (by exact (Eq.trans hB1 (Eq.trans (if_neg h6) (Eq.trans (if_neg h7) (Eq.trans (if_neg h8) (if_neg h9))))))
          · skip
            refine wi_aload_n hC 2 d_MC_writeReal_165 rfl rfl ?_
            refine wi_iconst hC 1 (by decide) d_MC_writeReal_166 ?_
            refine k_MC_masked hC (by decide) wd_585 (by decide) (Nat.le_of_ble_eq_true rfl) d_MC_writeReal_167 ?_
            obtain ⟨Tt5, eTt5⟩ : ∃ y : St, y = (
                    if f_MC_masked τ 1 = true then
                      let s2 : St := f_MC_pack τ a1 a2 true v1 (jlshl 1 (a1 - 2))
                      s2
                    else
                      τ) := ⟨_, rfl⟩
            have Jt5 : ∀ (t5 : St), Tt5 = t5 → WS p l e { frames := 4, cells := 0, slots := 0, locals := 96 } s m args below meth c Q E 11 186 [(5, .int v2), (3, .long v1), (0, .ref 45), (1, .int a1), (2, .int a2)] [] (σ, t5, q) := by
              intro t5  e_t5
              rw [eTt5] at e_t5
              refine wi_iconst hC 1 (by decide) d_MC_writeReal_186 ?_
              have hf : f_MC_writeReal τ a1 a2 = (1, t5) := by subst e_t5; exact (Eq.trans hB1 (Eq.trans (if_neg h6) (Eq.trans (if_neg h7) (Eq.trans (if_neg h8) (if_pos h9)))))
              exact wi_iret hC hr hk d_MC_writeReal_187 (congrArg (fun z => some (Value.int z.1)) hf) (congrArg (fun z => (σ, z.2, q)) hf).symm hQ
            refine wi_z_eq (b := (f_MC_masked τ 1)) hC 186 d_MC_writeReal_170 (by decide) (fun h10 => ?_) (fun h10 => ?_)
            · skip
              exact Jt5 τ (by exact (Eq.trans eTt5 (if_neg h10)))
            · skip
              refine wi_aload_n hC 2 d_MC_writeReal_173 rfl rfl ?_
              refine wi_iload_n hC 3 d_MC_writeReal_174 rfl rfl ?_
              refine wi_iload_n hC 4 d_MC_writeReal_175 rfl rfl ?_
              refine wi_iconst hC 1 (by decide) d_MC_writeReal_176 ?_
              refine wi_lload_n hC 1 d_MC_writeReal_177 rfl rfl ?_
              refine wi_lconst hC 1 (by decide) d_MC_writeReal_178 ?_
              refine wi_iload_n hC 3 d_MC_writeReal_179 rfl rfl ?_
              refine wi_iconst hC 2 (by decide) d_MC_writeReal_180 ?_
              refine wi_isub hC d_MC_writeReal_181 ?_
              refine wi_lshl hC d_MC_writeReal_182 ?_
              refine k_MC_pack hC true rfl hs wd_640 (by decide) (Nat.le_of_ble_eq_true rfl) d_MC_writeReal_183 ?_
              refine wi_nmM (fun s2 e_s2 => ?_)
              exact Jt5 s2 (by subst e_s2; exact (Eq.trans eTt5 (if_pos h10)))
      · skip
        exact B3   (by exact (Eq.trans hB1 (Eq.trans (if_neg h6) (if_pos h7))))
  refine wi_z_ne (b := (f_MC_isNumber τ)) hC 103 d_MC_writeReal_17 (by decide) (fun h1 => ?_) (fun h1 => ?_)
  · skip
    exact B1   (by subst e_v2; subst e_v1; exact (if_pos h1))
  · skip
    refine wi_aload_n hC 2 d_MC_writeReal_20 rfl rfl ?_
    refine k_MC_isEndless hC  wd_639 (by decide) (Nat.le_of_ble_eq_true rfl) d_MC_writeReal_21 ?_
    refine wi_z_ne (b := (f_MC_isEndless τ)) hC 103 d_MC_writeReal_24 (by decide) (fun h2 => ?_) (fun h2 => ?_)
    · skip
      exact B1   (by subst e_v2; subst e_v1; exact (Eq.trans (if_neg h1) (if_pos h2)))
    · skip
      refine wi_lconst hC 0 (by decide) d_MC_writeReal_27 ?_
      refine wi_lstore hC [(6, .long 0), (5, .int v2), (3, .long v1), (0, .ref 45), (1, .int a1), (2, .int a2)] d_MC_writeReal_28 (by decide) rfl ?_
      refine wi_iconst hC 0 (by decide) d_MC_writeReal_30 ?_
      refine wi_istore hC [(8, .int 0), (6, .long 0), (5, .int v2), (3, .long v1), (0, .ref 45), (1, .int a1), (2, .int a2)] d_MC_writeReal_31 (by decide) rfl ?_
      refine wi_loop ((b_MC_writeReal_33 τ a1)) (fun t2 => 0 ≤ (t2.1).toInt) (fun t2 => [(8, .int t2.1), (6, .long t2.2), (5, .int v2), (3, .long v1), (0, .ref 45), (1, .int a1), (2, .int a2)]) (fun t2 => (σ, τ, q)) 69 ?_ (up_inv (b := (b_MC_writeReal_33 τ a1)) (fun t => t.1) (a1 - 1) 0 (st_b_MC_writeReal_33 τ a1)) (upf (a1 - 1) 0) (0, 0) (show (0 : Int) ≤ (0 : Int32).toInt by decide) (up_halt (b := (b_MC_writeReal_33 τ a1)) (fun t => t.1) (a1 - 1) (st_b_MC_writeReal_33 τ a1) (0, 0)) ?_
      · intro t2 hi_t2 hc_t2 hx_t2
        refine wi_iload hC 0 d_MC_writeReal_33 rfl ?_
        refine wi_iload_n hC 5 d_MC_writeReal_35 rfl rfl ?_
        refine wi_iconst hC 1 (by decide) d_MC_writeReal_36 ?_
        refine wi_isub hC d_MC_writeReal_37 ?_
        refine wi_icmp_ge hC 69 d_MC_writeReal_38 (by decide) (fun h3 => ?_) (fun h3 => ?_)
        · skip
          exact hx_t2 (t2.1, t2.2) (by exact (if_pos h3))
        · skip
          refine wi_lload hC 1 d_MC_writeReal_41 rfl ?_
          refine wi_aload_n hC 4 d_MC_writeReal_43 rfl rfl ?_
          refine wg_MC_f hC wd_613 d_MC_writeReal_44 ?_
          refine wi_bipush hC 64 (by decide) d_MC_writeReal_47 ?_
          refine wi_iload_n hC 5 d_MC_writeReal_49 rfl rfl ?_
          refine wi_isub hC d_MC_writeReal_50 ?_
          refine wi_iload hC 0 d_MC_writeReal_51 rfl ?_
          refine wi_iadd hC d_MC_writeReal_53 ?_
          refine wi_lshr hC d_MC_writeReal_54 ?_
          refine wi_lconst hC 1 (by decide) d_MC_writeReal_55 ?_
          refine wi_land hC d_MC_writeReal_56 ?_
          refine wi_iload hC 0 d_MC_writeReal_57 rfl ?_
          refine wi_lshl hC d_MC_writeReal_59 ?_
          refine wi_ladd hC d_MC_writeReal_60 ?_
          refine wi_nmJ (fun v3 e_v3 => ?_)
          refine wi_lstore hC [(6, .long v3), (8, .int t2.1), (5, .int v2), (3, .long v1), (0, .ref 45), (1, .int a1), (2, .int a2)] d_MC_writeReal_61 (by decide) rfl ?_
          obtain ⟨v4, e_v4⟩ : ∃ y : Int32, t2.1 + 1 = y := ⟨_, rfl⟩
          refine wi_iinc hC 1 v4 [(8, .int v4), (6, .long v3), (5, .int v2), (3, .long v1), (0, .ref 45), (1, .int a1), (2, .int a2)] d_MC_writeReal_63 rfl (by rw [← e_v4]; rfl) (by decide) rfl ?_
          refine wi_goto hC 33 d_MC_writeReal_66 (by decide) ?_
          exact hc_t2 (v4, v3) (by subst e_v4; subst e_v3; exact (if_neg h3))
      obtain ⟨t1, e_t1⟩ : ∃ y : Int32 × Int64, lpn ((b_MC_writeReal_33 τ a1)) (upf (a1 - 1) 0) (0, 0) = y := ⟨_, rfl⟩
      rw [e_t1]
      refine wi_aload_n hC 4 d_MC_writeReal_69 rfl rfl ?_
      refine wi_iconst hC 1 (by decide) d_MC_writeReal_70 ?_
      refine k_MC_masked hC (by decide) wd_585 (by decide) (Nat.le_of_ble_eq_true rfl) d_MC_writeReal_71 ?_
      obtain ⟨Tt3, eTt3⟩ : ∃ y : St, y = (
              if f_MC_masked τ 1 = true then
                let t4 : Int64 := 
                    if t1.2 = 0 then
                      1
                    else
                      t1.2
                let s1 : St := f_MC_pack τ a1 a2 (gZ τ 39 45) v1 t4
                s1
              else
                τ) := ⟨_, rfl⟩
      have Jt3 : ∀ (t3 : St), Tt3 = t3 → WS p l e { frames := 4, cells := 0, slots := 0, locals := 96 } s m args below meth c Q E 11 101 [(8, .int t1.1), (6, .long t1.2), (5, .int v2), (3, .long v1), (0, .ref 45), (1, .int a1), (2, .int a2)] [] (σ, t3, q) := by
        intro t3  e_t3
        rw [eTt3] at e_t3
        refine wi_iconst hC 1 (by decide) d_MC_writeReal_101 ?_
        have hf : f_MC_writeReal τ a1 a2 = (1, t3) := by subst e_t3; subst e_t1; subst e_v2; subst e_v1; exact (Eq.trans (if_neg h1) (if_neg h2))
        exact wi_iret hC hr hk d_MC_writeReal_102 (congrArg (fun z => some (Value.int z.1)) hf) (congrArg (fun z => (σ, z.2, q)) hf).symm hQ
      refine wi_z_eq (b := (f_MC_masked τ 1)) hC 101 d_MC_writeReal_74 (by decide) (fun h4 => ?_) (fun h4 => ?_)
      · skip
        exact Jt3 τ (by exact (Eq.trans eTt3 (if_neg h4)))
      · skip
        refine wi_aload_n hC 4 d_MC_writeReal_77 rfl rfl ?_
        refine wi_iload_n hC 5 d_MC_writeReal_78 rfl rfl ?_
        refine wi_iload_n hC 6 d_MC_writeReal_79 rfl rfl ?_
        refine wi_aload_n hC 4 d_MC_writeReal_80 rfl rfl ?_
        refine wg_MC_minus hC wd_615 d_MC_writeReal_81 ?_
        refine wi_lload_n hC 3 d_MC_writeReal_84 rfl rfl ?_
        refine wi_lload hC 1 d_MC_writeReal_85 rfl ?_
        refine wi_lconst hC 0 (by decide) d_MC_writeReal_87 ?_
        obtain ⟨Tt4, eTt4⟩ : ∃ y : Int64, y = (
                if t1.2 = 0 then
                  1
                else
                  t1.2) := ⟨_, rfl⟩
        have Jt4 : ∀ (t4 : Int64), Tt4 = t4 → WS p l e { frames := 4, cells := 0, slots := 0, locals := 96 } s m args below meth c Q E 11 98 [(8, .int t1.1), (6, .long t1.2), (5, .int v2), (3, .long v1), (0, .ref 45), (1, .int a1), (2, .int a2)] [.long t4, .long v1, .int (bI (gZ τ 39 45)), .int a2, .int a1, .ref 45] (σ, τ, q) := by
          intro t4  e_t4
          rw [eTt4] at e_t4
          refine k_MC_pack hC (gZ τ 39 45) rfl hs wd_640 (by decide) (Nat.le_of_ble_eq_true rfl) d_MC_writeReal_98 ?_
          refine wi_nmM (fun s1 e_s1 => ?_)
          exact Jt3 s1 (by subst e_s1; subst e_t4; exact (Eq.trans eTt3 (if_pos h4)))
        refine wi_lcmp_ne hC 96 d_MC_writeReal_88 d_MC_writeReal_89 (by decide) (fun h5 => ?_) (fun h5 => ?_)
        · skip
          refine wi_lload hC 1 d_MC_writeReal_96 rfl ?_
          exact Jt4 t1.2 (by exact (Eq.trans eTt4 (if_neg h5)))
        · skip
          refine wi_lconst hC 1 (by decide) d_MC_writeReal_92 ?_
          refine wi_goto hC 98 d_MC_writeReal_93 (by decide) ?_
          exact Jt4 1 (by exact (Eq.trans eTt4 (if_pos h5)))
theorem k_MC_writeReal {p : Program} {l : Launch} {e : Env} {R : Room} {s : State} {m : MethodId} {args : Array Value} {below : List Frame} {meth : Method} {c : Code} {Q : State → Prop} {E : Ev} {nL pc index : Nat} {lv : List (Nat × Value)} {rest : List Value} {cc : ByteArray} {own : String} {σ τ : St} {q : Int64} {a1 : Int32} {a2 : Int32} (hC : Cx p s m args c cc nL own E)  (hs : (a1 = 24 ∧ a2 = 8) ∨ (a1 = 53 ∧ a2 = 11)) (hl : Cond.methodLink own index y_MC_writeReal ∈ WL) (hR : 4 + 1 ≤ R.frames ∧ 8 + (11 + 11) + 96 ≤ R.locals) (hs8 : (rest.map fun v => v.category).sum ≤ 8) (d : decode cc pc = .ok (.invokevirtual index, 3)) (k : WS p l e R s m args below meth c Q E nL (pc + 3) lv ((.int ((f_MC_writeReal τ a1 a2).1)) :: rest) (σ, (f_MC_writeReal τ a1 a2).2, q)) : WS p l e R s m args below meth c Q E nL pc lv (.int a2 :: .int a1 :: .ref 45 :: rest) (σ, τ, q) := by
  exact wi_callV hC (n := 2) (vs := [.int a1, .int a2]) (rest := rest) 45 13 (by decide) rfl rfl rfl (c_MC_writeReal l E σ τ q a1 a2 hs) (by decide +kernel) wd_642 wd_558 wd_643 wd_644 ⟨rfl, rfl⟩ rfl rfl hl hR hs8 d k
set_option maxRecDepth 100000 in
set_option maxHeartbeats 400000 in
theorem c_MC_writeDecimals (l : Launch) (E : Ev) (σ τ : St) (q : Int64)   : MF l y_MC_writeDecimals prog_13_method_22_code 3 (some .int) { frames := 3, cells := 0, slots := 0, locals := 69 } E [.ref 45] (σ, τ, q) (some (.int ((f_MC_writeDecimals τ).1))) (σ, (f_MC_writeDecimals τ).2, q) := by
  refine MF_intro (lv0 := [(0, .ref 45)]) (by decide) wd_646 (Nat.le_of_ble_eq_true rfl) rfl ?_
  intro p e s m args below meth c Q hC hr hk hQ
  replace hC : Cx p s m args c prog_13_method_22_code 3 "PartnerStackModel$RealConversionsModel" E := hC
  refine wi_aload_n hC 0 d_MC_writeDecimals_0 rfl rfl ?_
  refine k_MC_isNumber hC  wd_626 (by decide) (Nat.le_of_ble_eq_true rfl) d_MC_writeDecimals_1 ?_
  refine wi_nmZ (fun v1 e_v1 => ?_)
  refine wi_istore_n hC [(1, .int (bI v1)), (0, .ref 45)] d_MC_writeDecimals_4 rfl (by decide) rfl ?_
  refine wi_iload_n hC 0 d_MC_writeDecimals_5 rfl rfl ?_
  obtain ⟨Tt1, eTt1⟩ : ∃ y : Bool × St, y = (
          if v1 = true then
            let s1 : St := f_MC_round τ 0 4
            let t2 : Bool := 
                if gZ s1 43 45 = true then
                  false
                else
                  if (gJ s1 42 45) < 0 then
                    false
                  else
                    if 1000000000000000000 ≤ (gJ s1 42 45) then
                      false
                    else
                      true
            (t2, s1)
          else
            (v1, τ)) := ⟨_, rfl⟩
  have Jt1 : ∀ (t1 : Bool × St), Tt1 = t1 → WS p l e { frames := 3, cells := 0, slots := 0, locals := 69 } s m args below meth c Q E 3 48 [(1, .int (bI t1.1)), (0, .ref 45)] [] (σ, t1.2, q) := by
    intro t1  e_t1
    rw [eTt1] at e_t1
    refine wi_iload_n hC 0 d_MC_writeDecimals_48 rfl rfl ?_
    refine wi_z_ne (b := t1.1) hC 109 d_MC_writeDecimals_49 (by decide) (fun h5 => ?_) (fun h5 => ?_)
    · skip
      refine wi_iconst hC 0 (by decide) d_MC_writeDecimals_109 ?_
      refine wi_istore_n hC [(2, .int 0), (1, .int (bI t1.1)), (0, .ref 45)] d_MC_writeDecimals_110 rfl (by decide) rfl ?_
      refine wi_loop ((b_MC_writeDecimals_111)) (fun t4 => 0 ≤ (t4.1).toInt) (fun t4 => [(2, .int t4.1), (1, .int (bI t1.1)), (0, .ref 45)]) (fun t4 => (σ, t4.2, q)) 151 ?_ (up_inv (b := (b_MC_writeDecimals_111)) (fun t => t.1) 18 0 st_b_MC_writeDecimals_111) (upf 18 0) (0, t1.2) (show (0 : Int) ≤ (0 : Int32).toInt by decide) (up_halt (b := (b_MC_writeDecimals_111)) (fun t => t.1) 18 st_b_MC_writeDecimals_111 (0, t1.2)) ?_
      · intro t4 hi_t4 hc_t4 hx_t4
        refine wi_iload_n hC 0 d_MC_writeDecimals_111 rfl rfl ?_
        refine wi_bipush hC 18 (by decide) d_MC_writeDecimals_112 ?_
        refine wi_icmp_ge hC 151 d_MC_writeDecimals_114 (by decide) (fun h6 => ?_) (fun h6 => ?_)
        · skip
          exact hx_t4 (t4.1, t4.2) (by exact (if_pos h6))
        · skip
          refine wi_aload_n hC 2 d_MC_writeDecimals_117 rfl rfl ?_
          refine wi_iconst hC 4 (by decide) d_MC_writeDecimals_118 ?_
          refine wi_iload_n hC 0 d_MC_writeDecimals_119 rfl rfl ?_
          refine wi_imul hC d_MC_writeDecimals_120 ?_
          refine wi_iconst hC 4 (by decide) d_MC_writeDecimals_121 ?_
          refine wi_aload_n hC 2 d_MC_writeDecimals_122 rfl rfl ?_
          refine wg_MC_units hC wd_611 d_MC_writeDecimals_123 ?_
          refine wi_ldc2 hC wd_592 d_MC_writeDecimals_126 ?_
          refine wi_lrem hC (by decide) d_MC_writeDecimals_129 ?_
          refine k_MC_setBits hC (k4 hi_t4 (le17 h6)) wd_629 (by decide) (Nat.le_of_ble_eq_true rfl) d_MC_writeDecimals_130 ?_
          refine wi_nmM (fun s2 e_s2 => ?_)
          refine wi_aload_n hC 2 d_MC_writeDecimals_133 rfl rfl ?_
          refine wi_aload_n hC 2 d_MC_writeDecimals_134 rfl rfl ?_
          refine wg_MC_units hC wd_611 d_MC_writeDecimals_135 ?_
          refine wi_ldc2 hC wd_592 d_MC_writeDecimals_138 ?_
          refine wi_ldiv hC (by decide) d_MC_writeDecimals_141 ?_
          refine wp_MC_units hC wd_611 d_MC_writeDecimals_142 ?_
          refine wi_nmM (fun s3 e_s3 => ?_)
          obtain ⟨v2, e_v2⟩ : ∃ y : Int32, t4.1 + 1 = y := ⟨_, rfl⟩
          refine wi_iinc hC 0 v2 [(2, .int v2), (1, .int (bI t1.1)), (0, .ref 45)] d_MC_writeDecimals_145 rfl (by rw [← e_v2]; rfl) (by decide) rfl ?_
          refine wi_goto hC 111 d_MC_writeDecimals_148 (by decide) ?_
          exact hc_t4 (v2, s3) (by subst e_v2; subst e_s3; subst e_s2; exact (if_neg h6))
      obtain ⟨t3, e_t3⟩ : ∃ y : Int32 × St, lpn ((b_MC_writeDecimals_111)) (upf 18 0) (0, t1.2) = y := ⟨_, rfl⟩
      rw [e_t3]
      refine wi_aload_n hC 2 d_MC_writeDecimals_151 rfl rfl ?_
      refine wg_MC_memory hC wd_561 d_MC_writeDecimals_152 ?_
      refine wi_bipush hC 9 (by decide) d_MC_writeDecimals_155 ?_
      refine wi_aload_n hC 2 d_MC_writeDecimals_157 rfl rfl ?_
      refine wg_MC_minus hC wd_615 d_MC_writeDecimals_158 ?_
      obtain ⟨Tt5, eTt5⟩ : ∃ y : Int32, y = (
              if gZ t3.2 39 45 = true then
                128
              else
                0) := ⟨_, rfl⟩
      have Jt5 : ∀ (t5 : Int32), Tt5 = t5 → WS p l e { frames := 3, cells := 0, slots := 0, locals := 69 } s m args below meth c Q E 3 171 [(2, .int t3.1), (1, .int (bI t1.1)), (0, .ref 45)] [.int t5, .int 9, .ref 48] (σ, t3.2, q) := by
        intro t5  e_t5
        rw [eTt5] at e_t5
        refine wa_st48 hC (by unfold vp_in; decide) d_MC_writeDecimals_171 ?_
        refine wi_nmM (fun s4 e_s4 => ?_)
        refine wi_aload_n hC 2 d_MC_writeDecimals_172 rfl rfl ?_
        refine wg_MC_lossy hC wd_614 d_MC_writeDecimals_173 ?_
        obtain ⟨Tt6, eTt6⟩ : ∃ y : Int32, y = (
                if gZ s4 44 45 = true then
                  32
                else
                  0) := ⟨_, rfl⟩
        have Jt6 : ∀ (t6 : Int32), Tt6 = t6 → WS p l e { frames := 3, cells := 0, slots := 0, locals := 69 } s m args below meth c Q E 3 185 [(2, .int t3.1), (1, .int (bI t1.1)), (0, .ref 45)] [.int t6] (σ, s4, q) := by
          intro t6  e_t6
          rw [eTt6] at e_t6
          have hf : f_MC_writeDecimals τ = (t6, s4) := by subst e_t6; subst e_s4; subst e_t5; subst e_t3; subst e_t1; subst e_v1; exact (if_pos h5)
          exact wi_iret hC hr hk d_MC_writeDecimals_185 (congrArg (fun z => some (Value.int z.1)) hf) (congrArg (fun z => (σ, z.2, q)) hf).symm hQ
        refine wi_z_eq (b := (gZ s4 44 45)) hC 184 d_MC_writeDecimals_176 (by decide) (fun h8 => ?_) (fun h8 => ?_)
        · skip
          refine wi_iconst hC 0 (by decide) d_MC_writeDecimals_184 ?_
          exact Jt6 0 (by exact (Eq.trans eTt6 (if_neg h8)))
        · skip
          refine wi_bipush hC 32 (by decide) d_MC_writeDecimals_179 ?_
          refine wi_goto hC 185 d_MC_writeDecimals_181 (by decide) ?_
          exact Jt6 32 (by exact (Eq.trans eTt6 (if_pos h8)))
      refine wi_z_eq (b := (gZ t3.2 39 45)) hC 170 d_MC_writeDecimals_161 (by decide) (fun h7 => ?_) (fun h7 => ?_)
      · skip
        refine wi_iconst hC 0 (by decide) d_MC_writeDecimals_170 ?_
        exact Jt5 0 (by exact (Eq.trans eTt5 (if_neg h7)))
      · skip
        refine wi_sipush hC 128 (by decide) d_MC_writeDecimals_164 ?_
        refine wi_goto hC 171 d_MC_writeDecimals_167 (by decide) ?_
        exact Jt5 128 (by exact (Eq.trans eTt5 (if_pos h7)))
    · skip
      refine wi_aload_n hC 1 d_MC_writeDecimals_52 rfl rfl ?_
      refine wi_iconst hC 1 (by decide) d_MC_writeDecimals_53 ?_
      refine k_MC_masked hC (by decide) wd_585 (by decide) (Nat.le_of_ble_eq_true rfl) d_MC_writeDecimals_54 ?_
      refine wi_z_ne (b := (f_MC_masked t1.2 1)) hC 62 d_MC_writeDecimals_57 (by decide) (fun h9 => ?_) (fun h9 => ?_)
      · skip
        refine wi_iconst hC 0 (by decide) d_MC_writeDecimals_62 ?_
        refine wi_istore_n hC [(2, .int 0), (1, .int (bI t1.1)), (0, .ref 45)] d_MC_writeDecimals_63 rfl (by decide) rfl ?_
        refine wi_loop ((b_MC_writeDecimals_64)) (fun t8 => 0 ≤ (t8.1).toInt) (fun t8 => [(2, .int t8.1), (1, .int (bI t1.1)), (0, .ref 45)]) (fun t8 => (σ, t8.2, q)) 107 ?_ (up_inv (b := (b_MC_writeDecimals_64)) (fun t => t.1) 10 0 st_b_MC_writeDecimals_64) (upf 10 0) (0, t1.2) (show (0 : Int) ≤ (0 : Int32).toInt by decide) (up_halt (b := (b_MC_writeDecimals_64)) (fun t => t.1) 10 st_b_MC_writeDecimals_64 (0, t1.2)) ?_
        · intro t8 hi_t8 hc_t8 hx_t8
          refine wi_iload_n hC 0 d_MC_writeDecimals_64 rfl rfl ?_
          refine wi_bipush hC 10 (by decide) d_MC_writeDecimals_65 ?_
          refine wi_icmp_ge hC 107 d_MC_writeDecimals_67 (by decide) (fun h10 => ?_) (fun h10 => ?_)
          · skip
            exact hx_t8 (t8.1, t8.2) (by exact (if_pos h10))
          · skip
            refine wi_aload_n hC 2 d_MC_writeDecimals_70 rfl rfl ?_
            refine wg_MC_memory hC wd_561 d_MC_writeDecimals_71 ?_
            refine wi_iload_n hC 0 d_MC_writeDecimals_74 rfl rfl ?_
            refine wi_iload_n hC 0 d_MC_writeDecimals_75 rfl rfl ?_
            refine wi_bipush hC 7 (by decide) d_MC_writeDecimals_76 ?_
            obtain ⟨Tt9, eTt9⟩ : ∃ y : Int32, y = (
                    if 7 ≤ t8.1 then
                      if t8.1 = 7 then
                        192
                      else
                        255
                    else
                      0) := ⟨_, rfl⟩
            have Jt9 : ∀ (t9 : Int32), Tt9 = t9 → WS p l e { frames := 3, cells := 0, slots := 0, locals := 69 } s m args below meth c Q E 3 100 [(2, .int t8.1), (1, .int (bI t1.1)), (0, .ref 45)] [.int t9, .int t8.1, .ref 48] (σ, t8.2, q) := by
              intro t9  e_t9
              rw [eTt9] at e_t9
              refine wa_st48 hC (vin_of hi_t8 (hi_n h10 (by decide))) d_MC_writeDecimals_100 ?_
              refine wi_nmM (fun s5 e_s5 => ?_)
              obtain ⟨v3, e_v3⟩ : ∃ y : Int32, t8.1 + 1 = y := ⟨_, rfl⟩
              refine wi_iinc hC 0 v3 [(2, .int v3), (1, .int (bI t1.1)), (0, .ref 45)] d_MC_writeDecimals_101 rfl (by rw [← e_v3]; rfl) (by decide) rfl ?_
              refine wi_goto hC 64 d_MC_writeDecimals_104 (by decide) ?_
              exact hc_t8 (v3, s5) (by subst e_v3; subst e_s5; subst e_t9; exact (if_neg h10))
            refine wi_icmp_ge hC 85 d_MC_writeDecimals_78 (by decide) (fun h11 => ?_) (fun h11 => ?_)
            · skip
              refine wi_iload_n hC 0 d_MC_writeDecimals_85 rfl rfl ?_
              refine wi_bipush hC 7 (by decide) d_MC_writeDecimals_86 ?_
              refine wi_icmp_ne hC 97 d_MC_writeDecimals_88 (by decide) (fun h12 => ?_) (fun h12 => ?_)
              · skip
                refine wi_sipush hC 255 (by decide) d_MC_writeDecimals_97 ?_
                exact Jt9 255 (by exact (Eq.trans eTt9 (Eq.trans (if_pos h11) (if_neg h12))))
              · skip
                refine wi_sipush hC 192 (by decide) d_MC_writeDecimals_91 ?_
                refine wi_goto hC 100 d_MC_writeDecimals_94 (by decide) ?_
                exact Jt9 192 (by exact (Eq.trans eTt9 (Eq.trans (if_pos h11) (if_pos h12))))
            · skip
              refine wi_iconst hC 0 (by decide) d_MC_writeDecimals_81 ?_
              refine wi_goto hC 100 d_MC_writeDecimals_82 (by decide) ?_
              exact Jt9 0 (by exact (Eq.trans eTt9 (if_neg h11)))
        obtain ⟨t7, e_t7⟩ : ∃ y : Int32 × St, lpn ((b_MC_writeDecimals_64)) (upf 10 0) (0, t1.2) = y := ⟨_, rfl⟩
        rw [e_t7]
        refine wi_iconst hC 1 (by decide) d_MC_writeDecimals_107 ?_
        have hf : f_MC_writeDecimals τ = (1, t7.2) := by subst e_t7; subst e_t1; subst e_v1; exact (Eq.trans (if_neg h5) (if_pos h9))
        exact wi_iret hC hr hk d_MC_writeDecimals_108 (congrArg (fun z => some (Value.int z.1)) hf) (congrArg (fun z => (σ, z.2, q)) hf).symm hQ
      · skip
        refine wi_iconst hC 1 (by decide) d_MC_writeDecimals_60 ?_
        have hf : f_MC_writeDecimals τ = (1, t1.2) := by subst e_t1; subst e_v1; exact (Eq.trans (if_neg h5) (if_neg h9))
        exact wi_iret hC hr hk d_MC_writeDecimals_61 (congrArg (fun z => some (Value.int z.1)) hf) (congrArg (fun z => (σ, z.2, q)) hf).symm hQ
  refine wi_z_eq (b := v1) hC 48 d_MC_writeDecimals_6 (by decide) (fun h1 => ?_) (fun h1 => ?_)
  · skip
    exact Jt1 (v1, τ) (by exact (Eq.trans eTt1 (if_neg h1)))
  · skip
    refine wi_aload_n hC 1 d_MC_writeDecimals_9 rfl rfl ?_
    refine wi_iconst hC 0 (by decide) d_MC_writeDecimals_10 ?_
    refine wi_iconst hC 4 (by decide) d_MC_writeDecimals_11 ?_
    refine k_MC_round hC  wd_628 (by decide) (Nat.le_of_ble_eq_true rfl) d_MC_writeDecimals_12 ?_
    refine wi_nmM (fun s1 e_s1 => ?_)
    refine wi_aload_n hC 1 d_MC_writeDecimals_15 rfl rfl ?_
    refine wg_MC_great hC wd_612 d_MC_writeDecimals_16 ?_
    obtain ⟨Tt2, eTt2⟩ : ∃ y : Bool, y = (
            if gZ s1 43 45 = true then
              false
            else
              if (gJ s1 42 45) < 0 then
                false
              else
                if 1000000000000000000 ≤ (gJ s1 42 45) then
                  false
                else
                  true) := ⟨_, rfl⟩
    have Jt2 : ∀ (t2 : Bool), Tt2 = t2 → WS p l e { frames := 3, cells := 0, slots := 0, locals := 69 } s m args below meth c Q E 3 47 [(1, .int (bI v1)), (0, .ref 45)] [.int (bI t2)] (σ, s1, q) := by
      intro t2  e_t2
      rw [eTt2] at e_t2
      refine wi_istore_n hC [(1, .int (bI t2)), (0, .ref 45)] d_MC_writeDecimals_47 rfl (by decide) rfl ?_
      exact Jt1 (t2, s1) (by subst e_t2; subst e_s1; exact (Eq.trans eTt1 (if_pos h1)))
    refine wi_z_ne (b := (gZ s1 43 45)) hC 46 d_MC_writeDecimals_19 (by decide) (fun h2 => ?_) (fun h2 => ?_)
    · skip
      refine wi_iconst hC 0 (by decide) d_MC_writeDecimals_46 ?_
      exact Jt2 false (by exact (Eq.trans eTt2 (if_pos h2)))
    · skip
      refine wi_aload_n hC 1 d_MC_writeDecimals_22 rfl rfl ?_
      refine wg_MC_units hC wd_611 d_MC_writeDecimals_23 ?_
      refine wi_lconst hC 0 (by decide) d_MC_writeDecimals_26 ?_
      refine wi_lcmp_lt hC 46 d_MC_writeDecimals_27 d_MC_writeDecimals_28 (by decide) (fun h3 => ?_) (fun h3 => ?_)
      · skip
        refine wi_iconst hC 0 (by decide) d_MC_writeDecimals_46 ?_
        exact Jt2 false (by exact (Eq.trans eTt2 (Eq.trans (if_neg h2) (if_pos h3))))
      · skip
        refine wi_aload_n hC 1 d_MC_writeDecimals_31 rfl rfl ?_
        refine wg_MC_units hC wd_611 d_MC_writeDecimals_32 ?_
        refine wi_ldc2 hC wd_645 d_MC_writeDecimals_35 ?_
        refine wi_lcmp_ge hC 46 d_MC_writeDecimals_38 d_MC_writeDecimals_39 (by decide) (fun h4 => ?_) (fun h4 => ?_)
        · skip
          refine wi_iconst hC 0 (by decide) d_MC_writeDecimals_46 ?_
          exact Jt2 false (by exact (Eq.trans eTt2 (Eq.trans (if_neg h2) (Eq.trans (if_neg h3) (if_pos h4)))))
        · skip
          refine wi_iconst hC 1 (by decide) d_MC_writeDecimals_42 ?_
          refine wi_goto hC 47 d_MC_writeDecimals_43 (by decide) ?_
          exact Jt2 true (by exact (Eq.trans eTt2 (Eq.trans (if_neg h2) (Eq.trans (if_neg h3) (if_neg h4)))))
theorem k_MC_writeDecimals {p : Program} {l : Launch} {e : Env} {R : Room} {s : State} {m : MethodId} {args : Array Value} {below : List Frame} {meth : Method} {c : Code} {Q : State → Prop} {E : Ev} {nL pc index : Nat} {lv : List (Nat × Value)} {rest : List Value} {cc : ByteArray} {own : String} {σ τ : St} {q : Int64}  (hC : Cx p s m args c cc nL own E)   (hl : Cond.methodLink own index y_MC_writeDecimals ∈ WL) (hR : 3 + 1 ≤ R.frames ∧ 8 + (3 + 11) + 69 ≤ R.locals) (hs8 : (rest.map fun v => v.category).sum ≤ 8) (d : decode cc pc = .ok (.invokevirtual index, 3)) (k : WS p l e R s m args below meth c Q E nL (pc + 3) lv ((.int ((f_MC_writeDecimals τ).1)) :: rest) (σ, (f_MC_writeDecimals τ).2, q)) : WS p l e R s m args below meth c Q E nL pc lv (.ref 45 :: rest) (σ, τ, q) := by
  exact wi_callV hC (n := 0) (vs := []) (rest := rest) 45 13 (by decide) rfl rfl rfl (c_MC_writeDecimals l E σ τ q  ) (by decide +kernel) wd_646 wd_558 wd_647 wd_648 ⟨rfl, rfl⟩ rfl rfl hl hR hs8 d k
set_option maxRecDepth 100000 in
set_option maxHeartbeats 400000 in
theorem c_MC_write (l : Launch) (E : Ev) (σ τ : St) (q : Int64) (a1 : Int32) (a2 : Int32) (hp : vp_in a2 8) : MF l y_MC_write prog_13_method_25_code 3 (some .int) { frames := 5, cells := 0, slots := 0, locals := 126 } E [.ref 45, .int a1, .int a2] (σ, τ, q) (some (.int ((f_MC_write τ a1 a2).1))) (σ, (f_MC_write τ a1 a2).2, q) := by
  refine MF_intro (lv0 := [(0, .ref 45), (1, .int a1), (2, .int a2)]) (by decide) wd_652 (Nat.le_of_ble_eq_true rfl) rfl ?_
  intro p e s m args below meth c Q hC hr hk hQ
  replace hC : Cx p s m args c prog_13_method_25_code 3 "PartnerStackModel$RealConversionsModel" E := hC
  refine wi_aload_n hC 0 d_MC_write_0 rfl rfl ?_
  refine wi_iload_n hC 2 d_MC_write_1 rfl rfl ?_
  refine k_MC_none hC  wd_591 (by decide) (Nat.le_of_ble_eq_true rfl) d_MC_write_2 ?_
  obtain ⟨Tt1, eTt1⟩ : ∃ y : Int32, y = (
          if f_MC_none a2 = true then
            1
          else
            if a1 < 0 then
              2
            else
              if a1 ≤ 6 then
                0
              else
                2) := ⟨_, rfl⟩
  have Jt1 : ∀ (t1 : Int32), Tt1 = t1 → WS p l e { frames := 5, cells := 0, slots := 0, locals := 126 } s m args below meth c Q E 3 27 [(0, .ref 45), (1, .int a1), (2, .int a2)] [.int t1, .ref 45] (σ, τ, q) := by
    intro t1  e_t1
    rw [eTt1] at e_t1
    refine wp_MC_code hC wd_555 d_MC_write_27 ?_
    refine wi_nmM (fun s1 e_s1 => ?_)
    refine wi_aload_n hC 0 d_MC_write_30 rfl rfl ?_
    refine wg_MC_code hC wd_555 d_MC_write_31 ?_
    refine wi_if_le hC 39 d_MC_write_34 (by decide) (fun h4 => ?_) (fun h4 => ?_)
    · skip
      refine wi_aload_n hC 0 d_MC_write_39 rfl rfl ?_
      refine wi_aload_n hC 0 d_MC_write_40 rfl rfl ?_
      refine wg_MC_top hC wd_578 d_MC_write_41 ?_
      refine wi_iload_n hC 2 d_MC_write_44 rfl rfl ?_
      refine wa_ld46 hC hp d_MC_write_45 ?_
      refine wi_sipush hC 32767 (by decide) d_MC_write_46 ?_
      obtain ⟨Tt2, eTt2⟩ : ∃ y : Bool, y = (
              if (gI s1 112 (jat a2)) ≤ 32767 then
                false
              else
                true) := ⟨_, rfl⟩
      have Jt2 : ∀ (t2 : Bool), Tt2 = t2 → WS p l e { frames := 5, cells := 0, slots := 0, locals := 126 } s m args below meth c Q E 3 57 [(0, .ref 45), (1, .int a1), (2, .int a2)] [.int (bI t2), .ref 45] (σ, s1, q) := by
        intro t2  e_t2
        rw [eTt2] at e_t2
        refine wp_MC_minus hC t2 rfl wd_615 d_MC_write_57 ?_
        refine wi_nmM (fun s2 e_s2 => ?_)
        refine wi_aload_n hC 0 d_MC_write_60 rfl rfl ?_
        refine wi_aload_n hC 0 d_MC_write_61 rfl rfl ?_
        refine wg_MC_top hC wd_578 d_MC_write_62 ?_
        refine wi_iload_n hC 2 d_MC_write_65 rfl rfl ?_
        refine wa_ld46 hC hp d_MC_write_66 ?_
        refine wi_ldc hC wd_579 d_MC_write_67 ?_
        refine wi_irem hC (by decide) d_MC_write_69 ?_
        refine wp_MC_p hC wd_604 d_MC_write_70 ?_
        refine wi_nmM (fun s3 e_s3 => ?_)
        refine wi_aload_n hC 0 d_MC_write_73 rfl rfl ?_
        refine wi_aload_n hC 0 d_MC_write_74 rfl rfl ?_
        refine wg_MC_fraction hC wd_580 d_MC_write_75 ?_
        refine wi_iload_n hC 2 d_MC_write_78 rfl rfl ?_
        refine wa_ld47 hC hp d_MC_write_79 ?_
        refine wp_MC_f hC wd_613 d_MC_write_80 ?_
        refine wi_nmM (fun s4 e_s4 => ?_)
        refine wi_iload_n hC 1 d_MC_write_83 rfl rfl ?_
        refine wi_by (a1 = 0) (fun h6 => ?_) (fun h6 => ?_)
        · skip
          refine wi_tsIn hC 0 124 d_MC_write_84 (by rw [h6]; decide) (by decide) rfl (by decide) ?_
          refine wi_aload_n hC 0 d_MC_write_124 rfl rfl ?_
          refine wi_bipush hC 16 (by decide) d_MC_write_125 ?_
          refine k_MC_writeWhole hC (by decide) wd_649 (by decide) (Nat.le_of_ble_eq_true rfl) d_MC_write_127 ?_
          obtain ⟨r1, e_r1⟩ : ∃ y : Int32 × St, f_MC_writeWhole s4 16 = y := ⟨_, rfl⟩
          rw [e_r1]
          have hf : f_MC_write τ a1 a2 = (r1.1, r1.2) := by subst e_r1; subst e_s4; subst e_s3; subst e_s2; subst e_t2; subst e_s1; subst e_t1; exact (Eq.trans (if_pos h4) (if_pos h6))
          exact wi_iret hC hr hk d_MC_write_130 (congrArg (fun z => some (Value.int z.1)) hf) (congrArg (fun z => (σ, z.2, q)) hf).symm hQ
        · skip
          refine wi_by (a1 = 1) (fun h7 => ?_) (fun h7 => ?_)
          · skip
            refine wi_tsIn hC 1 131 d_MC_write_84 (by rw [h7]; decide) (by decide) rfl (by decide) ?_
            refine wi_aload_n hC 0 d_MC_write_131 rfl rfl ?_
            refine wi_bipush hC 32 (by decide) d_MC_write_132 ?_
            refine k_MC_writeWhole hC (by decide) wd_649 (by decide) (Nat.le_of_ble_eq_true rfl) d_MC_write_134 ?_
            obtain ⟨r2, e_r2⟩ : ∃ y : Int32 × St, f_MC_writeWhole s4 32 = y := ⟨_, rfl⟩
            rw [e_r2]
            have hf : f_MC_write τ a1 a2 = (r2.1, r2.2) := by subst e_r2; subst e_s4; subst e_s3; subst e_s2; subst e_t2; subst e_s1; subst e_t1; exact (Eq.trans (if_pos h4) (Eq.trans (if_neg h6) (if_pos h7)))
            exact wi_iret hC hr hk d_MC_write_137 (congrArg (fun z => some (Value.int z.1)) hf) (congrArg (fun z => (σ, z.2, q)) hf).symm hQ
          · skip
            refine wi_by (a1 = 2) (fun h8 => ?_) (fun h8 => ?_)
            · skip
              refine wi_tsIn hC 2 138 d_MC_write_84 (by rw [h8]; decide) (by decide) rfl (by decide) ?_
              refine wi_aload_n hC 0 d_MC_write_138 rfl rfl ?_
              refine wi_bipush hC 64 (by decide) d_MC_write_139 ?_
              refine k_MC_writeWhole hC (by decide) wd_649 (by decide) (Nat.le_of_ble_eq_true rfl) d_MC_write_141 ?_
              obtain ⟨r3, e_r3⟩ : ∃ y : Int32 × St, f_MC_writeWhole s4 64 = y := ⟨_, rfl⟩
              rw [e_r3]
              have hf : f_MC_write τ a1 a2 = (r3.1, r3.2) := by subst e_r3; subst e_s4; subst e_s3; subst e_s2; subst e_t2; subst e_s1; subst e_t1; exact (Eq.trans (if_pos h4) (Eq.trans (if_neg h6) (Eq.trans (if_neg h7) (if_pos h8))))
              exact wi_iret hC hr hk d_MC_write_144 (congrArg (fun z => some (Value.int z.1)) hf) (congrArg (fun z => (σ, z.2, q)) hf).symm hQ
            · skip
              refine wi_by (a1 = 3) (fun h9 => ?_) (fun h9 => ?_)
              · skip
                refine wi_tsIn hC 3 145 d_MC_write_84 (by rw [h9]; decide) (by decide) rfl (by decide) ?_
                refine wi_aload_n hC 0 d_MC_write_145 rfl rfl ?_
                refine wi_bipush hC 24 (by decide) d_MC_write_146 ?_
                refine wi_bipush hC 8 (by decide) d_MC_write_148 ?_
                refine k_MC_writeReal hC (by decide) wd_650 (by decide) (Nat.le_of_ble_eq_true rfl) d_MC_write_150 ?_
                obtain ⟨r4, e_r4⟩ : ∃ y : Int32 × St, f_MC_writeReal s4 24 8 = y := ⟨_, rfl⟩
                rw [e_r4]
                have hf : f_MC_write τ a1 a2 = (r4.1, r4.2) := by subst e_r4; subst e_s4; subst e_s3; subst e_s2; subst e_t2; subst e_s1; subst e_t1; exact (Eq.trans (if_pos h4) (Eq.trans (if_neg h6) (Eq.trans (if_neg h7) (Eq.trans (if_neg h8) (if_pos h9)))))
                exact wi_iret hC hr hk d_MC_write_153 (congrArg (fun z => some (Value.int z.1)) hf) (congrArg (fun z => (σ, z.2, q)) hf).symm hQ
              · skip
                refine wi_by (a1 = 4) (fun h10 => ?_) (fun h10 => ?_)
                · skip
                  refine wi_tsIn hC 4 154 d_MC_write_84 (by rw [h10]; decide) (by decide) rfl (by decide) ?_
                  refine wi_aload_n hC 0 d_MC_write_154 rfl rfl ?_
                  refine wi_bipush hC 53 (by decide) d_MC_write_155 ?_
                  refine wi_bipush hC 11 (by decide) d_MC_write_157 ?_
                  refine k_MC_writeReal hC (by decide) wd_650 (by decide) (Nat.le_of_ble_eq_true rfl) d_MC_write_159 ?_
                  obtain ⟨r5, e_r5⟩ : ∃ y : Int32 × St, f_MC_writeReal s4 53 11 = y := ⟨_, rfl⟩
                  rw [e_r5]
                  have hf : f_MC_write τ a1 a2 = (r5.1, r5.2) := by subst e_r5; subst e_s4; subst e_s3; subst e_s2; subst e_t2; subst e_s1; subst e_t1; exact (Eq.trans (if_pos h4) (Eq.trans (if_neg h6) (Eq.trans (if_neg h7) (Eq.trans (if_neg h8) (Eq.trans (if_neg h9) (if_pos h10))))))
                  exact wi_iret hC hr hk d_MC_write_162 (congrArg (fun z => some (Value.int z.1)) hf) (congrArg (fun z => (σ, z.2, q)) hf).symm hQ
                · skip
                  refine wi_by (a1 = 5) (fun h11 => ?_) (fun h11 => ?_)
                  · skip
                    refine wi_tsIn hC 5 163 d_MC_write_84 (by rw [h11]; decide) (by decide) rfl (by decide) ?_
                    refine wi_aload_n hC 0 d_MC_write_163 rfl rfl ?_
                    refine k_MC_writeDecimals hC  wd_651 (by decide) (Nat.le_of_ble_eq_true rfl) d_MC_write_164 ?_
                    obtain ⟨r6, e_r6⟩ : ∃ y : Int32 × St, f_MC_writeDecimals s4 = y := ⟨_, rfl⟩
                    rw [e_r6]
                    have hf : f_MC_write τ a1 a2 = (r6.1, r6.2) := by subst e_r6; subst e_s4; subst e_s3; subst e_s2; subst e_t2; subst e_s1; subst e_t1; exact (Eq.trans (if_pos h4) (Eq.trans (if_neg h6) (Eq.trans (if_neg h7) (Eq.trans (if_neg h8) (Eq.trans (if_neg h9) (Eq.trans (if_neg h10) (if_pos h11)))))))
                    exact wi_iret hC hr hk d_MC_write_167 (congrArg (fun z => some (Value.int z.1)) hf) (congrArg (fun z => (σ, z.2, q)) hf).symm hQ
                  · skip
                    refine wi_tsOut hC 168 d_MC_write_84 (by have q0 := lv_neT h6 (a := 0) (by decide); have q1 := lv_neT h7 (a := 1) (by decide); have q2 := lv_neT h8 (a := 2) (by decide); have q3 := lv_neT h9 (a := 3) (by decide); have q4 := lv_neT h10 (a := 4) (by decide); have q5 := lv_neT h11 (a := 5) (by decide); omega) (by decide) ?_
                    refine wi_aload_n hC 0 d_MC_write_168 rfl rfl ?_
                    refine wi_iconst hC 0 (by decide) d_MC_write_169 ?_
                    refine wi_bipush hC 64 (by decide) d_MC_write_170 ?_
                    refine wi_aload_n hC 0 d_MC_write_172 rfl rfl ?_
                    refine wg_MC_f hC wd_613 d_MC_write_173 ?_
                    refine k_MC_setBits hC (by decide) wd_629 (by decide) (Nat.le_of_ble_eq_true rfl) d_MC_write_176 ?_
                    refine wi_nmM (fun s5 e_s5 => ?_)
                    refine wi_aload_n hC 0 d_MC_write_179 rfl rfl ?_
                    refine wg_MC_memory hC wd_561 d_MC_write_180 ?_
                    refine wi_bipush hC 8 (by decide) d_MC_write_183 ?_
                    refine wi_aload_n hC 0 d_MC_write_185 rfl rfl ?_
                    refine wg_MC_top hC wd_578 d_MC_write_186 ?_
                    refine wi_iload_n hC 2 d_MC_write_189 rfl rfl ?_
                    refine wa_ld46 hC hp d_MC_write_190 ?_
                    refine wi_sipush hC 256 (by decide) d_MC_write_191 ?_
                    refine wi_irem hC (by decide) d_MC_write_194 ?_
                    refine wa_st48 hC (by unfold vp_in; decide) d_MC_write_195 ?_
                    refine wi_nmM (fun s6 e_s6 => ?_)
                    refine wi_aload_n hC 0 d_MC_write_196 rfl rfl ?_
                    refine wg_MC_memory hC wd_561 d_MC_write_197 ?_
                    refine wi_bipush hC 9 (by decide) d_MC_write_200 ?_
                    refine wi_aload_n hC 0 d_MC_write_202 rfl rfl ?_
                    refine wg_MC_top hC wd_578 d_MC_write_203 ?_
                    refine wi_iload_n hC 2 d_MC_write_206 rfl rfl ?_
                    refine wa_ld46 hC hp d_MC_write_207 ?_
                    refine wi_sipush hC 256 (by decide) d_MC_write_208 ?_
                    refine wi_idiv hC (by decide) d_MC_write_211 ?_
                    refine wa_st48 hC (by unfold vp_in; decide) d_MC_write_212 ?_
                    refine wi_nmM (fun s7 e_s7 => ?_)
                    refine wi_iconst hC 0 (by decide) d_MC_write_213 ?_
                    have hf : f_MC_write τ a1 a2 = (0, s7) := by subst e_s7; subst e_s6; subst e_s5; subst e_s4; subst e_s3; subst e_s2; subst e_t2; subst e_s1; subst e_t1; exact (Eq.trans (if_pos h4) (Eq.trans (if_neg h6) (Eq.trans (if_neg h7) (Eq.trans (if_neg h8) (Eq.trans (if_neg h9) (Eq.trans (if_neg h10) (if_neg h11)))))))
                    exact wi_iret hC hr hk d_MC_write_214 (congrArg (fun z => some (Value.int z.1)) hf) (congrArg (fun z => (σ, z.2, q)) hf).symm hQ
      refine wi_icmp_le hC 56 d_MC_write_49 (by decide) (fun h5 => ?_) (fun h5 => ?_)
      · skip
        refine wi_iconst hC 0 (by decide) d_MC_write_56 ?_
        exact Jt2 false (by exact (Eq.trans eTt2 (if_pos h5)))
      · skip
        refine wi_iconst hC 1 (by decide) d_MC_write_52 ?_
        refine wi_goto hC 57 d_MC_write_53 (by decide) ?_
        exact Jt2 true (by exact (Eq.trans eTt2 (if_neg h5)))
    · skip
      refine wi_iconst hC 0 (by decide) d_MC_write_37 ?_
      have hf : f_MC_write τ a1 a2 = (0, s1) := by subst e_s1; subst e_t1; exact (if_neg h4)
      exact wi_iret hC hr hk d_MC_write_38 (congrArg (fun z => some (Value.int z.1)) hf) (congrArg (fun z => (σ, z.2, q)) hf).symm hQ
  refine wi_z_eq (b := (f_MC_none a2)) hC 12 d_MC_write_5 (by decide) (fun h1 => ?_) (fun h1 => ?_)
  · skip
    refine wi_iload_n hC 1 d_MC_write_12 rfl rfl ?_
    refine wi_if_lt hC 22 d_MC_write_13 (by decide) (fun h2 => ?_) (fun h2 => ?_)
    · skip
      refine wi_iconst hC 2 (by decide) d_MC_write_22 ?_
      refine wi_goto hC 27 d_MC_write_23 (by decide) ?_
      exact Jt1 2 (by exact (Eq.trans eTt1 (Eq.trans (if_neg h1) (if_pos h2))))
    · skip
      refine wi_iload_n hC 1 d_MC_write_16 rfl rfl ?_
      refine wi_bipush hC 6 (by decide) d_MC_write_17 ?_
      refine wi_icmp_le hC 26 d_MC_write_19 (by decide) (fun h3 => ?_) (fun h3 => ?_)
      · skip
        refine wi_iconst hC 0 (by decide) d_MC_write_26 ?_
        exact Jt1 0 (by exact (Eq.trans eTt1 (Eq.trans (if_neg h1) (Eq.trans (if_neg h2) (if_pos h3)))))
      · skip
        refine wi_iconst hC 2 (by decide) d_MC_write_22 ?_
        refine wi_goto hC 27 d_MC_write_23 (by decide) ?_
        exact Jt1 2 (by exact (Eq.trans eTt1 (Eq.trans (if_neg h1) (Eq.trans (if_neg h2) (if_neg h3)))))
  · skip
    refine wi_iconst hC 1 (by decide) d_MC_write_8 ?_
    refine wi_goto hC 27 d_MC_write_9 (by decide) ?_
    exact Jt1 1 (by exact (Eq.trans eTt1 (if_pos h1)))
theorem k_MC_write {p : Program} {l : Launch} {e : Env} {R : Room} {s : State} {m : MethodId} {args : Array Value} {below : List Frame} {meth : Method} {c : Code} {Q : State → Prop} {E : Ev} {nL pc index : Nat} {lv : List (Nat × Value)} {rest : List Value} {cc : ByteArray} {own : String} {σ τ : St} {q : Int64} {a1 : Int32} {a2 : Int32} (hC : Cx p s m args c cc nL own E)  (hp : vp_in a2 8) (hl : Cond.methodLink own index y_MC_write ∈ WL) (hR : 5 + 1 ≤ R.frames ∧ 8 + (3 + 11) + 126 ≤ R.locals) (hs8 : (rest.map fun v => v.category).sum ≤ 8) (d : decode cc pc = .ok (.invokevirtual index, 3)) (k : WS p l e R s m args below meth c Q E nL (pc + 3) lv ((.int ((f_MC_write τ a1 a2).1)) :: rest) (σ, (f_MC_write τ a1 a2).2, q)) : WS p l e R s m args below meth c Q E nL pc lv (.int a2 :: .int a1 :: .ref 45 :: rest) (σ, τ, q) := by
  exact wi_callV hC (n := 2) (vs := [.int a1, .int a2]) (rest := rest) 45 13 (by decide) rfl rfl rfl (c_MC_write l E σ τ q a1 a2 hp) (by decide +kernel) wd_652 wd_558 wd_653 wd_654 ⟨rfl, rfl⟩ rfl rfl hl hR hs8 d k
set_option maxRecDepth 100000 in
set_option maxHeartbeats 400000 in
theorem c_MC_byteAt (l : Launch) (E : Ev) (σ τ : St) (q : Int64) (a1 : Int32) (hp : vp_in a1 10) : MF l y_MC_byteAt prog_13_method_8_code 2 (some .int) { frames := 0, cells := 0, slots := 0, locals := 0 } E [.ref 45, .int a1] (σ, τ, q) (some (.int ((f_MC_byteAt τ a1).1))) (σ, (f_MC_byteAt τ a1).2, q) := by
  refine MF_intro (lv0 := [(0, .ref 45), (1, .int a1)]) (by decide) wd_655 (Nat.le_of_ble_eq_true rfl) rfl ?_
  intro p e s m args below meth c Q hC hr hk hQ
  replace hC : Cx p s m args c prog_13_method_8_code 2 "PartnerStackModel$RealConversionsModel" E := hC
  refine wi_aload_n hC 0 d_MC_byteAt_0 rfl rfl ?_
  refine wi_iload_n hC 1 d_MC_byteAt_1 rfl rfl ?_
  obtain ⟨Tt1, eTt1⟩ : ∃ y : Bool, y = (
          if a1 < 0 then
            true
          else
            if a1 ≤ 9 then
              false
            else
              true) := ⟨_, rfl⟩
  have Jt1 : ∀ (t1 : Bool), Tt1 = t1 → WS p l e { frames := 0, cells := 0, slots := 0, locals := 0 } s m args below meth c Q E 2 16 [(0, .ref 45), (1, .int a1)] [.int (bI t1), .ref 45] (σ, τ, q) := by
    intro t1  e_t1
    rw [eTt1] at e_t1
    refine wp_MC_code hC wd_555 d_MC_byteAt_16 ?_
    refine wi_nmM (fun s1 e_s1 => ?_)
    refine wi_aload_n hC 0 d_MC_byteAt_19 rfl rfl ?_
    refine wg_MC_code hC wd_555 d_MC_byteAt_20 ?_
    obtain ⟨Tt2, eTt2⟩ : ∃ y : Int32, y = (
            if (gI s1 37 45) ≤ 0 then
              gI s1 114 (jat a1)
            else
              0) := ⟨_, rfl⟩
    have Jt2 : ∀ (t2 : Int32), Tt2 = t2 → WS p l e { frames := 0, cells := 0, slots := 0, locals := 0 } s m args below meth c Q E 2 36 [(0, .ref 45), (1, .int a1)] [.int t2] (σ, s1, q) := by
      intro t2  e_t2
      rw [eTt2] at e_t2
      have hf : f_MC_byteAt τ a1 = (t2, s1) := by subst e_t2; subst e_s1; subst e_t1; exact rfl
      exact wi_iret hC hr hk d_MC_byteAt_36 (congrArg (fun z => some (Value.int z.1)) hf) (congrArg (fun z => (σ, z.2, q)) hf).symm hQ
    refine wi_if_le hC 30 d_MC_byteAt_23 (by decide) (fun h3 => ?_) (fun h3 => ?_)
    · skip
      refine wi_aload_n hC 0 d_MC_byteAt_30 rfl rfl ?_
      refine wg_MC_memory hC wd_561 d_MC_byteAt_31 ?_
      refine wi_iload_n hC 1 d_MC_byteAt_34 rfl rfl ?_
      refine wa_ld48 hC hp d_MC_byteAt_35 ?_
      exact Jt2 (gI s1 114 (jat a1)) (by exact (Eq.trans eTt2 (if_pos h3)))
    · skip
      refine wi_iconst hC 0 (by decide) d_MC_byteAt_26 ?_
      refine wi_goto hC 36 d_MC_byteAt_27 (by decide) ?_
      exact Jt2 0 (by exact (Eq.trans eTt2 (if_neg h3)))
  refine wi_if_lt hC 11 d_MC_byteAt_2 (by decide) (fun h1 => ?_) (fun h1 => ?_)
  · skip
    refine wi_iconst hC 1 (by decide) d_MC_byteAt_11 ?_
    refine wi_goto hC 16 d_MC_byteAt_12 (by decide) ?_
    exact Jt1 true (by exact (Eq.trans eTt1 (if_pos h1)))
  · skip
    refine wi_iload_n hC 1 d_MC_byteAt_5 rfl rfl ?_
    refine wi_bipush hC 9 (by decide) d_MC_byteAt_6 ?_
    refine wi_icmp_le hC 15 d_MC_byteAt_8 (by decide) (fun h2 => ?_) (fun h2 => ?_)
    · skip
      refine wi_iconst hC 0 (by decide) d_MC_byteAt_15 ?_
      exact Jt1 false (by exact (Eq.trans eTt1 (Eq.trans (if_neg h1) (if_pos h2))))
    · skip
      refine wi_iconst hC 1 (by decide) d_MC_byteAt_11 ?_
      refine wi_goto hC 16 d_MC_byteAt_12 (by decide) ?_
      exact Jt1 true (by exact (Eq.trans eTt1 (Eq.trans (if_neg h1) (if_neg h2))))
theorem k_MC_byteAt {p : Program} {l : Launch} {e : Env} {R : Room} {s : State} {m : MethodId} {args : Array Value} {below : List Frame} {meth : Method} {c : Code} {Q : State → Prop} {E : Ev} {nL pc index : Nat} {lv : List (Nat × Value)} {rest : List Value} {cc : ByteArray} {own : String} {σ τ : St} {q : Int64} {a1 : Int32} (hC : Cx p s m args c cc nL own E)  (hp : vp_in a1 10) (hl : Cond.methodLink own index y_MC_byteAt ∈ WL) (hR : 0 + 1 ≤ R.frames ∧ 8 + (2 + 11) + 0 ≤ R.locals) (hs8 : (rest.map fun v => v.category).sum ≤ 8) (d : decode cc pc = .ok (.invokevirtual index, 3)) (k : WS p l e R s m args below meth c Q E nL (pc + 3) lv ((.int ((f_MC_byteAt τ a1).1)) :: rest) (σ, (f_MC_byteAt τ a1).2, q)) : WS p l e R s m args below meth c Q E nL pc lv (.int a1 :: .ref 45 :: rest) (σ, τ, q) := by
  exact wi_callV hC (n := 1) (vs := [.int a1]) (rest := rest) 45 13 (by decide) rfl rfl rfl (c_MC_byteAt l E σ τ q a1 hp) (by decide +kernel) wd_655 wd_558 wd_656 wd_657 ⟨rfl, rfl⟩ rfl rfl hl hR hs8 d k
