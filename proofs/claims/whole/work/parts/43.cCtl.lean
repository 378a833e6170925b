set_option maxRecDepth 100000 in
set_option maxHeartbeats 400000 in
theorem c_Ctl_tell (l : Launch) (E : Ev) (σ τ : St) (q : Int64) (a1 : Int32)  : MF l y_Ctl_tell prog_2_method_2_code 2 none { frames := 0, cells := 0, slots := 0, locals := 0 } E [.ref 3, .int a1] (σ, τ, q) none ((f_Ctl_tell σ a1), τ, q) := by
  refine MF_intro (lv0 := [(0, .ref 3), (1, .int a1)]) (by decide) wd_131 (Nat.le_of_ble_eq_true rfl) rfl ?_
  intro p e s m args below meth c Q hC hr hk hQ
  replace hC : Cx p s m args c prog_2_method_2_code 2 "PartnerStack$Control" E := hC
  refine wi_aload_n hC 0 d_Ctl_tell_0 rfl rfl ?_
  refine wi_dup hC rfl d_Ctl_tell_1 ?_
  refine wg_Ctl_told hC wd_130 d_Ctl_tell_2 ?_
  refine wi_iload_n hC 1 d_Ctl_tell_5 rfl rfl ?_
  refine wi_ior hC d_Ctl_tell_6 ?_
  refine wp_Ctl_told hC wd_130 d_Ctl_tell_7 ?_
  refine wi_nmC (fun s1 e_s1 => ?_)
  have hf : f_Ctl_tell σ a1 = s1 := by subst e_s1; exact rfl
  exact wi_vret hC hr hk d_Ctl_tell_10 rfl (congrArg (fun z => (z, τ, q)) hf).symm hQ
theorem k_Ctl_tell {p : Program} {l : Launch} {e : Env} {R : Room} {s : State} {m : MethodId} {args : Array Value} {below : List Frame} {meth : Method} {c : Code} {Q : State → Prop} {E : Ev} {nL pc index : Nat} {lv : List (Nat × Value)} {rest : List Value} {cc : ByteArray} {own : String} {σ τ : St} {q : Int64} {a1 : Int32} (hC : Cx p s m args c cc nL own E)   (hl : Cond.methodLink own index y_Ctl_tell ∈ WL) (hR : 0 + 1 ≤ R.frames ∧ 8 + (2 + 11) + 0 ≤ R.locals) (hs8 : (rest.map fun v => v.category).sum ≤ 8) (d : decode cc pc = .ok (.invokevirtual index, 3)) (k : WS p l e R s m args below meth c Q E nL (pc + 3) lv rest ((f_Ctl_tell σ a1), τ, q)) : WS p l e R s m args below meth c Q E nL pc lv (.int a1 :: .ref 3 :: rest) (σ, τ, q) := by
  exact wi_callV hC (n := 1) (vs := [.int a1]) (rest := rest) 3 2 (by decide) rfl rfl rfl (c_Ctl_tell l E σ τ q a1 ) (by decide +kernel) wd_131 wd_132 wd_133 wd_134 ⟨rfl, rfl⟩ rfl rfl hl hR hs8 d k
set_option maxRecDepth 100000 in
set_option maxHeartbeats 400000 in
theorem c_Ctl_ends (l : Launch) (E : Ev) (σ τ : St) (q : Int64)   : MF l y_Ctl_ends prog_2_method_4_code 1 (some .boolean) { frames := 0, cells := 0, slots := 0, locals := 0 } E [.ref 3] (σ, τ, q) (some (.int (bI (f_Ctl_ends σ)))) (σ, τ, q) := by
  refine MF_intro (lv0 := [(0, .ref 3)]) (by decide) wd_136 (Nat.le_of_ble_eq_true rfl) rfl ?_
  intro p e s m args below meth c Q hC hr hk hQ
  replace hC : Cx p s m args c prog_2_method_4_code 1 "PartnerStack$Control" E := hC
  refine wi_aload_n hC 0 d_Ctl_ends_0 rfl rfl ?_
  refine wg_Ctl_told hC wd_130 d_Ctl_ends_1 ?_
  refine wi_aload_n hC 0 d_Ctl_ends_4 rfl rfl ?_
  refine wg_Ctl_setting hC wd_135 d_Ctl_ends_5 ?_
  refine wi_iconst hC (-1) (by decide) d_Ctl_ends_8 ?_
  refine wi_ixor hC d_Ctl_ends_9 ?_
  refine wi_iand hC d_Ctl_ends_10 ?_
  refine wi_bipush hC 7 (by decide) d_Ctl_ends_11 ?_
  refine wi_iand hC d_Ctl_ends_13 ?_
  obtain ⟨Tt1, eTt1⟩ : ∃ y : Bool, y = (
          if ((gI σ 7 3) &&& ((gI σ 6 3) ^^^ (-1))) &&& 7 = 0 then
            false
          else
            true) := ⟨_, rfl⟩
  have Jt1 : ∀ (t1 : Bool), Tt1 = t1 → WS p l e { frames := 0, cells := 0, slots := 0, locals := 0 } s m args below meth c Q E 1 22 [(0, .ref 3)] [.int (bI t1)] (σ, τ, q) := by
    intro t1  e_t1
    rw [eTt1] at e_t1
    have hf : f_Ctl_ends σ = t1 := by subst e_t1; exact rfl
    exact wi_zret hC hr hk d_Ctl_ends_22 rfl (congrArg (fun z => some (Value.int (bI z))) hf) rfl hQ
  refine wi_if_eq hC 21 d_Ctl_ends_14 (by decide) (fun h1 => ?_) (fun h1 => ?_)
  · skip
    refine wi_iconst hC 0 (by decide) d_Ctl_ends_21 ?_
    exact Jt1 false (by exact (Eq.trans eTt1 (if_pos h1)))
  · skip
    refine wi_iconst hC 1 (by decide) d_Ctl_ends_17 ?_
    refine wi_goto hC 22 d_Ctl_ends_18 (by decide) ?_
    exact Jt1 true (by exact (Eq.trans eTt1 (if_neg h1)))
theorem k_Ctl_ends {p : Program} {l : Launch} {e : Env} {R : Room} {s : State} {m : MethodId} {args : Array Value} {below : List Frame} {meth : Method} {c : Code} {Q : State → Prop} {E : Ev} {nL pc index : Nat} {lv : List (Nat × Value)} {rest : List Value} {cc : ByteArray} {own : String} {σ τ : St} {q : Int64}  (hC : Cx p s m args c cc nL own E)   (hl : Cond.methodLink own index y_Ctl_ends ∈ WL) (hR : 0 + 1 ≤ R.frames ∧ 8 + (1 + 11) + 0 ≤ R.locals) (hs8 : (rest.map fun v => v.category).sum ≤ 8) (d : decode cc pc = .ok (.invokevirtual index, 3)) (k : WS p l e R s m args below meth c Q E nL (pc + 3) lv ((.int (bI (f_Ctl_ends σ))) :: rest) (σ, τ, q)) : WS p l e R s m args below meth c Q E nL pc lv (.ref 3 :: rest) (σ, τ, q) := by
  exact wi_callV hC (n := 0) (vs := []) (rest := rest) 3 2 (by decide) rfl rfl rfl (c_Ctl_ends l E σ τ q  ) (by decide +kernel) wd_136 wd_132 wd_137 wd_138 ⟨rfl, rfl⟩ rfl rfl hl hR hs8 d k
set_option maxRecDepth 100000 in
set_option maxHeartbeats 400000 in
theorem c_Ctl_knowsOneInfinite (l : Launch) (E : Ev) (σ τ : St) (q : Int64)   : MF l y_Ctl_knowsOneInfinite prog_2_method_9_code 1 (some .boolean) { frames := 0, cells := 0, slots := 0, locals := 0 } E [.ref 3] (σ, τ, q) (some (.int (bI (f_Ctl_knowsOneInfinite σ)))) (σ, τ, q) := by
  refine MF_intro (lv0 := [(0, .ref 3)]) (by decide) wd_139 (Nat.le_of_ble_eq_true rfl) rfl ?_
  intro p e s m args below meth c Q hC hr hk hQ
  replace hC : Cx p s m args c prog_2_method_9_code 1 "PartnerStack$Control" E := hC
  refine wi_aload_n hC 0 d_Ctl_knowsOneInfinite_0 rfl rfl ?_
  refine wg_Ctl_setting hC wd_135 d_Ctl_knowsOneInfinite_1 ?_
  refine wi_sipush hC 4096 (by decide) d_Ctl_knowsOneInfinite_4 ?_
  refine wi_iand hC d_Ctl_knowsOneInfinite_7 ?_
  obtain ⟨Tt1, eTt1⟩ : ∃ y : Bool, y = (
          if (gI σ 6 3) &&& 4096 = 0 then
            true
          else
            false) := ⟨_, rfl⟩
  have Jt1 : ∀ (t1 : Bool), Tt1 = t1 → WS p l e { frames := 0, cells := 0, slots := 0, locals := 0 } s m args below meth c Q E 1 16 [(0, .ref 3)] [.int (bI t1)] (σ, τ, q) := by
    intro t1  e_t1
    rw [eTt1] at e_t1
    have hf : f_Ctl_knowsOneInfinite σ = t1 := by subst e_t1; exact rfl
    exact wi_zret hC hr hk d_Ctl_knowsOneInfinite_16 rfl (congrArg (fun z => some (Value.int (bI z))) hf) rfl hQ
  refine wi_if_ne hC 15 d_Ctl_knowsOneInfinite_8 (by decide) (fun h1 => ?_) (fun h1 => ?_)
  · skip
    refine wi_iconst hC 0 (by decide) d_Ctl_knowsOneInfinite_15 ?_
    exact Jt1 false (by exact (Eq.trans eTt1 (if_neg h1)))
  · skip
    refine wi_iconst hC 1 (by decide) d_Ctl_knowsOneInfinite_11 ?_
    refine wi_goto hC 16 d_Ctl_knowsOneInfinite_12 (by decide) ?_
    exact Jt1 true (by exact (Eq.trans eTt1 (if_pos h1)))
theorem k_Ctl_knowsOneInfinite {p : Program} {l : Launch} {e : Env} {R : Room} {s : State} {m : MethodId} {args : Array Value} {below : List Frame} {meth : Method} {c : Code} {Q : State → Prop} {E : Ev} {nL pc index : Nat} {lv : List (Nat × Value)} {rest : List Value} {cc : ByteArray} {own : String} {σ τ : St} {q : Int64}  (hC : Cx p s m args c cc nL own E)   (hl : Cond.methodLink own index y_Ctl_knowsOneInfinite ∈ WL) (hR : 0 + 1 ≤ R.frames ∧ 8 + (1 + 11) + 0 ≤ R.locals) (hs8 : (rest.map fun v => v.category).sum ≤ 8) (d : decode cc pc = .ok (.invokevirtual index, 3)) (k : WS p l e R s m args below meth c Q E nL (pc + 3) lv ((.int (bI (f_Ctl_knowsOneInfinite σ))) :: rest) (σ, τ, q)) : WS p l e R s m args below meth c Q E nL pc lv (.ref 3 :: rest) (σ, τ, q) := by
  exact wi_callV hC (n := 0) (vs := []) (rest := rest) 3 2 (by decide) rfl rfl rfl (c_Ctl_knowsOneInfinite l E σ τ q  ) (by decide +kernel) wd_139 wd_132 wd_140 wd_141 ⟨rfl, rfl⟩ rfl rfl hl hR hs8 d k
set_option maxRecDepth 100000 in
set_option maxHeartbeats 400000 in
theorem c_Ctl_settles (l : Launch) (E : Ev) (σ τ : St) (q : Int64) (a1 : Nat) (a2 : Nat) (a3 : Bool) (a4 : Nat) (ha1 : isReal a1) (ha2 : isReal a2) (ha4 : isReal a4) : MF l y_Ctl_settles prog_2_method_10_code 5 (some .boolean) { frames := 2, cells := 0, slots := 0, locals := 45 } E [.ref 3, .ref a1, .ref a2, .int (bI a3), .ref a4] (σ, τ, q) (some (.int (bI ((f_Ctl_settles σ a1 a2 a3 a4).1)))) ((f_Ctl_settles σ a1 a2 a3 a4).2, τ, q) := by
  refine MF_intro (lv0 := [(0, .ref 3), (1, .ref a1), (2, .ref a2), (3, .int (bI a3)), (4, .ref a4)]) (by decide) wd_147 (Nat.le_of_ble_eq_true rfl) rfl ?_
  intro p e s m args below meth c Q hC hr hk hQ
  replace hC : Cx p s m args c prog_2_method_10_code 5 "PartnerStack$Control" E := hC
  refine wi_aload hC 4 d_Ctl_settles_0 rfl ?_
  refine wi_aload_n hC 1 d_Ctl_settles_2 rfl rfl ?_
  refine wi_aload_n hC 2 d_Ctl_settles_3 rfl rfl ?_
  refine k_Real_takeNoNumber hC ha4 ha1 ha2 wd_142 (by decide) (Nat.le_of_ble_eq_true rfl) d_Ctl_settles_4 ?_
  obtain ⟨r1, e_r1⟩ : ∃ y : Bool × St, f_Real_takeNoNumber σ a4 a1 a2 = y := ⟨_, rfl⟩
  rw [e_r1]
  refine wi_z_eq (b := r1.1) hC 17 d_Ctl_settles_7 (by decide) (fun h1 => ?_) (fun h1 => ?_)
  · skip
    refine wi_iload_n hC 3 d_Ctl_settles_17 rfl rfl ?_
    refine wi_z_eq (b := a3) hC 33 d_Ctl_settles_18 (by decide) (fun h2 => ?_) (fun h2 => ?_)
    · skip
      refine wi_aload_n hC 1 d_Ctl_settles_33 rfl rfl ?_
      refine k_Real_kind hC ha1 wd_143 (by decide) (Nat.le_of_ble_eq_true rfl) d_Ctl_settles_34 ?_
      refine wi_iconst hC 1 (by decide) d_Ctl_settles_37 ?_
      obtain ⟨Tt1, eTt1⟩ : ∃ y : St, y = (
              if f_Real_kind r1.2 a1 = 1 then
                f_Ctl_settles_b49 r1
              else
                if f_Real_kind r1.2 a2 = 1 then
                  f_Ctl_settles_b49 r1
                else
                  r1.2) := ⟨_, rfl⟩
      have Jt1 : ∀ (t1 : St), Tt1 = t1 → WS p l e { frames := 2, cells := 0, slots := 0, locals := 45 } s m args below meth c Q E 5 54 [(0, .ref 3), (1, .ref a1), (2, .ref a2), (3, .int (bI a3)), (4, .ref a4)] [] (t1, τ, q) := by
        intro t1  e_t1
        rw [eTt1] at e_t1
        refine wi_aload_n hC 0 d_Ctl_settles_54 rfl rfl ?_
        refine k_Ctl_ends hC  wd_145 (by decide) (Nat.le_of_ble_eq_true rfl) d_Ctl_settles_55 ?_
        have hf : f_Ctl_settles σ a1 a2 a3 a4 = (f_Ctl_ends t1, t1) := by subst e_t1; subst e_r1; exact (Eq.trans (if_neg h1) (if_neg h2))
        exact wi_zret hC hr hk d_Ctl_settles_58 rfl (congrArg (fun z => some (Value.int (bI z.1))) hf) (congrArg (fun z => (z.2, τ, q)) hf).symm hQ
      have B1 : Tt1 = f_Ctl_settles_b49 r1 → WS p l e { frames := 2, cells := 0, slots := 0, locals := 45 } s m args below meth c Q E 5 49 [(0, .ref 3), (1, .ref a1), (2, .ref a2), (3, .int (bI a3)), (4, .ref a4)] [] (r1.2, τ, q) := by
        intro hB1
        refine wi_aload_n hC 0 d_Ctl_settles_49 rfl rfl ?_
        refine wi_iconst hC 2 (by decide) d_Ctl_settles_50 ?_
        refine k_Ctl_tell hC  wd_144 (by decide) (Nat.le_of_ble_eq_true rfl) d_Ctl_settles_51 ?_
        refine wi_nmC (fun s1 e_s1 => ?_)
        exact Jt1 s1 (by subst e_s1; exact hB1)
      refine wi_icmp_eq hC 49 d_Ctl_settles_38 (by decide) (fun h3 => ?_) (fun h3 => ?_)
      · skip
        exact B1   (by exact (Eq.trans eTt1 (if_pos h3)))
      · skip
        refine wi_aload_n hC 2 d_Ctl_settles_41 rfl rfl ?_
        refine k_Real_kind hC ha2 wd_143 (by decide) (Nat.le_of_ble_eq_true rfl) d_Ctl_settles_42 ?_
        refine wi_iconst hC 1 (by decide) d_Ctl_settles_45 ?_
        refine wi_icmp_ne hC 54 d_Ctl_settles_46 (by decide) (fun h4 => ?_) (fun h4 => ?_)
        · skip
          exact Jt1 r1.2 (by exact (Eq.trans eTt1 (Eq.trans (if_neg h3) (if_neg h4))))
        · skip
          exact B1   (by exact (Eq.trans eTt1 (Eq.trans (if_neg h3) (if_pos h4))))
    · skip
      refine wi_aload_n hC 0 d_Ctl_settles_21 rfl rfl ?_
      refine wi_iconst hC 1 (by decide) d_Ctl_settles_22 ?_
      refine k_Ctl_tell hC  wd_144 (by decide) (Nat.le_of_ble_eq_true rfl) d_Ctl_settles_23 ?_
      refine wi_nmC (fun s2 e_s2 => ?_)
      refine wi_aload hC 4 d_Ctl_settles_26 rfl ?_
      refine k_Real_setIndefinite hC ha4 wd_146 (by decide) (Nat.le_of_ble_eq_true rfl) d_Ctl_settles_28 ?_
      refine wi_nmC (fun s3 e_s3 => ?_)
      refine wi_iconst hC 1 (by decide) d_Ctl_settles_31 ?_
      have hf : f_Ctl_settles σ a1 a2 a3 a4 = (true, s3) := by subst e_s3; subst e_s2; subst e_r1; exact (Eq.trans (if_neg h1) (if_pos h2))
      exact wi_zret hC hr hk d_Ctl_settles_32 rfl (congrArg (fun z => some (Value.int (bI z.1))) hf) (congrArg (fun z => (z.2, τ, q)) hf).symm hQ
  · skip
    refine wi_aload_n hC 0 d_Ctl_settles_10 rfl rfl ?_
    refine wi_iconst hC 1 (by decide) d_Ctl_settles_11 ?_
    refine k_Ctl_tell hC  wd_144 (by decide) (Nat.le_of_ble_eq_true rfl) d_Ctl_settles_12 ?_
    refine wi_nmC (fun s4 e_s4 => ?_)
    refine wi_iconst hC 1 (by decide) d_Ctl_settles_15 ?_
    have hf : f_Ctl_settles σ a1 a2 a3 a4 = (true, s4) := by subst e_s4; subst e_r1; exact (if_pos h1)
    exact wi_zret hC hr hk d_Ctl_settles_16 rfl (congrArg (fun z => some (Value.int (bI z.1))) hf) (congrArg (fun z => (z.2, τ, q)) hf).symm hQ
theorem k_Ctl_settles {p : Program} {l : Launch} {e : Env} {R : Room} {s : State} {m : MethodId} {args : Array Value} {below : List Frame} {meth : Method} {c : Code} {Q : State → Prop} {E : Ev} {nL pc index : Nat} {lv : List (Nat × Value)} {rest : List Value} {cc : ByteArray} {own : String} {σ τ : St} {q : Int64} {a1 : Nat} {a2 : Nat} {a4 : Nat} (hC : Cx p s m args c cc nL own E) {x_a3 : Int32} (a3 : Bool) (hx_a3 : x_a3 = bI a3) (ha1 : isReal a1) (ha2 : isReal a2) (ha4 : isReal a4) (hl : Cond.methodLink own index y_Ctl_settles ∈ WL) (hR : 2 + 1 ≤ R.frames ∧ 8 + (5 + 11) + 45 ≤ R.locals) (hs8 : (rest.map fun v => v.category).sum ≤ 8) (d : decode cc pc = .ok (.invokevirtual index, 3)) (k : WS p l e R s m args below meth c Q E nL (pc + 3) lv ((.int (bI ((f_Ctl_settles σ a1 a2 a3 a4).1))) :: rest) ((f_Ctl_settles σ a1 a2 a3 a4).2, τ, q)) : WS p l e R s m args below meth c Q E nL pc lv (.ref a4 :: .int x_a3 :: .ref a2 :: .ref a1 :: .ref 3 :: rest) (σ, τ, q) := by
  subst hx_a3
  exact wi_callV hC (n := 4) (vs := [.ref a1, .ref a2, .int (bI a3), .ref a4]) (rest := rest) 3 2 (by decide) rfl rfl rfl (c_Ctl_settles l E σ τ q a1 a2 a3 a4 ha1 ha2 ha4) (by decide +kernel) wd_147 wd_132 wd_148 wd_149 ⟨rfl, rfl⟩ rfl rfl hl hR hs8 d k
set_option maxRecDepth 100000 in
set_option maxHeartbeats 400000 in
theorem c_Ctl_rounding (l : Launch) (E : Ev) (σ τ : St) (q : Int64)   : MF l y_Ctl_rounding prog_2_method_7_code 1 (some .int) { frames := 0, cells := 0, slots := 0, locals := 0 } E [.ref 3] (σ, τ, q) (some (.int (f_Ctl_rounding σ))) (σ, τ, q) := by
  refine MF_intro (lv0 := [(0, .ref 3)]) (by decide) wd_150 (Nat.le_of_ble_eq_true rfl) rfl ?_
  intro p e s m args below meth c Q hC hr hk hQ
  replace hC : Cx p s m args c prog_2_method_7_code 1 "PartnerStack$Control" E := hC
  refine wi_aload_n hC 0 d_Ctl_rounding_0 rfl rfl ?_
  refine wg_Ctl_setting hC wd_135 d_Ctl_rounding_1 ?_
  refine wi_bipush hC 10 (by decide) d_Ctl_rounding_4 ?_
  refine wi_ishr hC d_Ctl_rounding_6 ?_
  refine wi_iconst hC 3 (by decide) d_Ctl_rounding_7 ?_
  refine wi_iand hC d_Ctl_rounding_8 ?_
  have hf : f_Ctl_rounding σ = (jshr (gI σ 6 3) 10) &&& 3 := by exact rfl
  exact wi_iret hC hr hk d_Ctl_rounding_9 (congrArg (fun z => some (Value.int z)) hf) rfl hQ
theorem k_Ctl_rounding {p : Program} {l : Launch} {e : Env} {R : Room} {s : State} {m : MethodId} {args : Array Value} {below : List Frame} {meth : Method} {c : Code} {Q : State → Prop} {E : Ev} {nL pc index : Nat} {lv : List (Nat × Value)} {rest : List Value} {cc : ByteArray} {own : String} {σ τ : St} {q : Int64}  (hC : Cx p s m args c cc nL own E)   (hl : Cond.methodLink own index y_Ctl_rounding ∈ WL) (hR : 0 + 1 ≤ R.frames ∧ 8 + (1 + 11) + 0 ≤ R.locals) (hs8 : (rest.map fun v => v.category).sum ≤ 8) (d : decode cc pc = .ok (.invokevirtual index, 3)) (k : WS p l e R s m args below meth c Q E nL (pc + 3) lv ((.int (f_Ctl_rounding σ)) :: rest) (σ, τ, q)) : WS p l e R s m args below meth c Q E nL pc lv (.ref 3 :: rest) (σ, τ, q) := by
  exact wi_callV hC (n := 0) (vs := []) (rest := rest) 3 2 (by decide) rfl rfl rfl (c_Ctl_rounding l E σ τ q  ) (by decide +kernel) wd_150 wd_132 wd_151 wd_152 ⟨rfl, rfl⟩ rfl rfl hl hR hs8 d k
set_option maxRecDepth 100000 in
set_option maxHeartbeats 400000 in
theorem c_Ctl_digits (l : Launch) (E : Ev) (σ τ : St) (q : Int64)   : MF l y_Ctl_digits prog_2_method_6_code 2 (some .int) { frames := 0, cells := 0, slots := 0, locals := 0 } E [.ref 3] (σ, τ, q) (some (.int (f_Ctl_digits σ))) (σ, τ, q) := by
  refine MF_intro (lv0 := [(0, .ref 3)]) (by decide) wd_153 (Nat.le_of_ble_eq_true rfl) rfl ?_
  intro p e s m args below meth c Q hC hr hk hQ
  replace hC : Cx p s m args c prog_2_method_6_code 2 "PartnerStack$Control" E := hC
  refine wi_aload_n hC 0 d_Ctl_digits_0 rfl rfl ?_
  refine wg_Ctl_setting hC wd_135 d_Ctl_digits_1 ?_
  refine wi_bipush hC 8 (by decide) d_Ctl_digits_4 ?_
  refine wi_ishr hC d_Ctl_digits_6 ?_
  refine wi_iconst hC 3 (by decide) d_Ctl_digits_7 ?_
  refine wi_iand hC d_Ctl_digits_8 ?_
  refine wi_nmI (fun v1 e_v1 => ?_)
  refine wi_istore_n hC [(1, .int v1), (0, .ref 3)] d_Ctl_digits_9 rfl (by decide) rfl ?_
  refine wi_iload_n hC 0 d_Ctl_digits_10 rfl rfl ?_
  refine wi_if_ne hC 17 d_Ctl_digits_11 (by decide) (fun h1 => ?_) (fun h1 => ?_)
  · skip
    refine wi_iload_n hC 0 d_Ctl_digits_17 rfl rfl ?_
    refine wi_iconst hC 2 (by decide) d_Ctl_digits_18 ?_
    obtain ⟨Tt1, eTt1⟩ : ∃ y : Int32, y = (
            if v1 = 2 then
              53
            else
              64) := ⟨_, rfl⟩
    have Jt1 : ∀ (t1 : Int32), Tt1 = t1 → WS p l e { frames := 0, cells := 0, slots := 0, locals := 0 } s m args below meth c Q E 2 29 [(1, .int v1), (0, .ref 3)] [.int t1] (σ, τ, q) := by
      intro t1  e_t1
      rw [eTt1] at e_t1
      have hf : f_Ctl_digits σ = t1 := by subst e_t1; subst e_v1; exact (if_neg h1)
      exact wi_iret hC hr hk d_Ctl_digits_29 (congrArg (fun z => some (Value.int z)) hf) rfl hQ
    refine wi_icmp_ne hC 27 d_Ctl_digits_19 (by decide) (fun h2 => ?_) (fun h2 => ?_)
    · skip
      refine wi_bipush hC 64 (by decide) d_Ctl_digits_27 ?_
      exact Jt1 64 (by exact (Eq.trans eTt1 (if_neg h2)))
    · skip
      refine wi_bipush hC 53 (by decide) d_Ctl_digits_22 ?_
      refine wi_goto hC 29 d_Ctl_digits_24 (by decide) ?_
      exact Jt1 53 (by exact (Eq.trans eTt1 (if_pos h2)))
  · skip
    refine wi_bipush hC 24 (by decide) d_Ctl_digits_14 ?_
    have hf : f_Ctl_digits σ = 24 := by subst e_v1; exact (if_pos h1)
    exact wi_iret hC hr hk d_Ctl_digits_16 (congrArg (fun z => some (Value.int z)) hf) rfl hQ
theorem k_Ctl_digits {p : Program} {l : Launch} {e : Env} {R : Room} {s : State} {m : MethodId} {args : Array Value} {below : List Frame} {meth : Method} {c : Code} {Q : State → Prop} {E : Ev} {nL pc index : Nat} {lv : List (Nat × Value)} {rest : List Value} {cc : ByteArray} {own : String} {σ τ : St} {q : Int64}  (hC : Cx p s m args c cc nL own E)   (hl : Cond.methodLink own index y_Ctl_digits ∈ WL) (hR : 0 + 1 ≤ R.frames ∧ 8 + (2 + 11) + 0 ≤ R.locals) (hs8 : (rest.map fun v => v.category).sum ≤ 8) (d : decode cc pc = .ok (.invokevirtual index, 3)) (k : WS p l e R s m args below meth c Q E nL (pc + 3) lv ((.int (f_Ctl_digits σ)) :: rest) (σ, τ, q)) : WS p l e R s m args below meth c Q E nL pc lv (.ref 3 :: rest) (σ, τ, q) := by
  exact wi_callV hC (n := 0) (vs := []) (rest := rest) 3 2 (by decide) rfl rfl rfl (c_Ctl_digits l E σ τ q  ) (by decide +kernel) wd_153 wd_132 wd_154 wd_155 ⟨rfl, rfl⟩ rfl rfl hl hR hs8 d k
set_option maxRecDepth 100000 in
set_option maxHeartbeats 400000 in
theorem c_Ctl_masks (l : Launch) (E : Ev) (σ τ : St) (q : Int64) (a1 : Int32)  : MF l y_Ctl_masks prog_2_method_3_code 2 (some .boolean) { frames := 0, cells := 0, slots := 0, locals := 0 } E [.ref 3, .int a1] (σ, τ, q) (some (.int (bI (f_Ctl_masks σ a1)))) (σ, τ, q) := by
  refine MF_intro (lv0 := [(0, .ref 3), (1, .int a1)]) (by decide) wd_156 (Nat.le_of_ble_eq_true rfl) rfl ?_
  intro p e s m args below meth c Q hC hr hk hQ
  replace hC : Cx p s m args c prog_2_method_3_code 2 "PartnerStack$Control" E := hC
  refine wi_aload_n hC 0 d_Ctl_masks_0 rfl rfl ?_
  refine wg_Ctl_setting hC wd_135 d_Ctl_masks_1 ?_
  refine wi_iload_n hC 1 d_Ctl_masks_4 rfl rfl ?_
  refine wi_iand hC d_Ctl_masks_5 ?_
  obtain ⟨Tt1, eTt1⟩ : ∃ y : Bool, y = (
          if (gI σ 6 3) &&& a1 = 0 then
            false
          else
            true) := ⟨_, rfl⟩
  have Jt1 : ∀ (t1 : Bool), Tt1 = t1 → WS p l e { frames := 0, cells := 0, slots := 0, locals := 0 } s m args below meth c Q E 2 14 [(0, .ref 3), (1, .int a1)] [.int (bI t1)] (σ, τ, q) := by
    intro t1  e_t1
    rw [eTt1] at e_t1
    have hf : f_Ctl_masks σ a1 = t1 := by subst e_t1; exact rfl
    exact wi_zret hC hr hk d_Ctl_masks_14 rfl (congrArg (fun z => some (Value.int (bI z))) hf) rfl hQ
  refine wi_if_eq hC 13 d_Ctl_masks_6 (by decide) (fun h1 => ?_) (fun h1 => ?_)
  · skip
    refine wi_iconst hC 0 (by decide) d_Ctl_masks_13 ?_
    exact Jt1 false (by exact (Eq.trans eTt1 (if_pos h1)))
  · skip
    refine wi_iconst hC 1 (by decide) d_Ctl_masks_9 ?_
    refine wi_goto hC 14 d_Ctl_masks_10 (by decide) ?_
    exact Jt1 true (by exact (Eq.trans eTt1 (if_neg h1)))
theorem k_Ctl_masks {p : Program} {l : Launch} {e : Env} {R : Room} {s : State} {m : MethodId} {args : Array Value} {below : List Frame} {meth : Method} {c : Code} {Q : State → Prop} {E : Ev} {nL pc index : Nat} {lv : List (Nat × Value)} {rest : List Value} {cc : ByteArray} {own : String} {σ τ : St} {q : Int64} {a1 : Int32} (hC : Cx p s m args c cc nL own E)   (hl : Cond.methodLink own index y_Ctl_masks ∈ WL) (hR : 0 + 1 ≤ R.frames ∧ 8 + (2 + 11) + 0 ≤ R.locals) (hs8 : (rest.map fun v => v.category).sum ≤ 8) (d : decode cc pc = .ok (.invokevirtual index, 3)) (k : WS p l e R s m args below meth c Q E nL (pc + 3) lv ((.int (bI (f_Ctl_masks σ a1))) :: rest) (σ, τ, q)) : WS p l e R s m args below meth c Q E nL pc lv (.int a1 :: .ref 3 :: rest) (σ, τ, q) := by
  exact wi_callV hC (n := 1) (vs := [.int a1]) (rest := rest) 3 2 (by decide) rfl rfl rfl (c_Ctl_masks l E σ τ q a1 ) (by decide +kernel) wd_156 wd_132 wd_157 wd_158 ⟨rfl, rfl⟩ rfl rfl hl hR hs8 d k
set_option maxRecDepth 100000 in
set_option maxHeartbeats 400000 in
theorem c_Ctl_overBecomesInfinite (l : Launch) (E : Ev) (σ τ : St) (q : Int64) (a1 : Bool)  : MF l y_Ctl_overBecomesInfinite prog_2_method_8_code 3 (some .boolean) { frames := 1, cells := 0, slots := 0, locals := 20 } E [.ref 3, .int (bI a1)] (σ, τ, q) (some (.int (bI (f_Ctl_overBecomesInfinite σ a1)))) (σ, τ, q) := by
  refine MF_intro (lv0 := [(0, .ref 3), (1, .int (bI a1))]) (by decide) wd_160 (Nat.le_of_ble_eq_true rfl) rfl ?_
  intro p e s m args below meth c Q hC hr hk hQ
  replace hC : Cx p s m args c prog_2_method_8_code 3 "PartnerStack$Control" E := hC
  refine wi_aload_n hC 0 d_Ctl_overBecomesInfinite_0 rfl rfl ?_
  refine k_Ctl_rounding hC  wd_159 (by decide) (Nat.le_of_ble_eq_true rfl) d_Ctl_overBecomesInfinite_1 ?_
  refine wi_nmI (fun v1 e_v1 => ?_)
  refine wi_istore_n hC [(2, .int v1), (0, .ref 3), (1, .int (bI a1))] d_Ctl_overBecomesInfinite_4 rfl (by decide) rfl ?_
  refine wi_iload_n hC 0 d_Ctl_overBecomesInfinite_5 rfl rfl ?_
  obtain ⟨Tt1, eTt1⟩ : ∃ y : Bool, y = (
          if v1 = 0 then
            true
          else
            let t2 : Int32 := 
                if a1 = true then
                  1
                else
                  2
            if v1 = t2 then
              true
            else
              false) := ⟨_, rfl⟩
  have Jt1 : ∀ (t1 : Bool), Tt1 = t1 → WS p l e { frames := 1, cells := 0, slots := 0, locals := 20 } s m args below meth c Q E 3 27 [(2, .int v1), (0, .ref 3), (1, .int (bI a1))] [.int (bI t1)] (σ, τ, q) := by
    intro t1  e_t1
    rw [eTt1] at e_t1
    have hf : f_Ctl_overBecomesInfinite σ a1 = t1 := by subst e_t1; subst e_v1; exact rfl
    exact wi_zret hC hr hk d_Ctl_overBecomesInfinite_27 rfl (congrArg (fun z => some (Value.int (bI z))) hf) rfl hQ
  refine wi_if_eq hC 22 d_Ctl_overBecomesInfinite_6 (by decide) (fun h1 => ?_) (fun h1 => ?_)
  · skip
    refine wi_iconst hC 1 (by decide) d_Ctl_overBecomesInfinite_22 ?_
    refine wi_goto hC 27 d_Ctl_overBecomesInfinite_23 (by decide) ?_
    exact Jt1 true (by exact (Eq.trans eTt1 (if_pos h1)))
  · skip
    refine wi_iload_n hC 0 d_Ctl_overBecomesInfinite_9 rfl rfl ?_
    refine wi_iload_n hC 2 d_Ctl_overBecomesInfinite_10 rfl rfl ?_
    obtain ⟨Tt2, eTt2⟩ : ∃ y : Int32, y = (
            if a1 = true then
              1
            else
              2) := ⟨_, rfl⟩
    have Jt2 : ∀ (t2 : Int32), Tt2 = t2 → WS p l e { frames := 1, cells := 0, slots := 0, locals := 20 } s m args below meth c Q E 3 19 [(2, .int v1), (0, .ref 3), (1, .int (bI a1))] [.int t2, .int v1] (σ, τ, q) := by
      intro t2  e_t2
      rw [eTt2] at e_t2
      refine wi_icmp_ne hC 26 d_Ctl_overBecomesInfinite_19 (by decide) (fun h3 => ?_) (fun h3 => ?_)
      · skip
        refine wi_iconst hC 0 (by decide) d_Ctl_overBecomesInfinite_26 ?_
        exact Jt1 false (by subst e_t2; exact (Eq.trans eTt1 (Eq.trans (if_neg h1) (if_neg h3))))
      · skip
        refine wi_iconst hC 1 (by decide) d_Ctl_overBecomesInfinite_22 ?_
        refine wi_goto hC 27 d_Ctl_overBecomesInfinite_23 (by decide) ?_
        exact Jt1 true (by subst e_t2; exact (Eq.trans eTt1 (Eq.trans (if_neg h1) (if_pos h3))))
    refine wi_z_eq (b := a1) hC 18 d_Ctl_overBecomesInfinite_11 (by decide) (fun h2 => ?_) (fun h2 => ?_)
    · skip
      refine wi_iconst hC 2 (by decide) d_Ctl_overBecomesInfinite_18 ?_
      exact Jt2 2 (by exact (Eq.trans eTt2 (if_neg h2)))
    · skip
      refine wi_iconst hC 1 (by decide) d_Ctl_overBecomesInfinite_14 ?_
      refine wi_goto hC 19 d_Ctl_overBecomesInfinite_15 (by decide) ?_
      exact Jt2 1 (by exact (Eq.trans eTt2 (if_pos h2)))
theorem k_Ctl_overBecomesInfinite {p : Program} {l : Launch} {e : Env} {R : Room} {s : State} {m : MethodId} {args : Array Value} {below : List Frame} {meth : Method} {c : Code} {Q : State → Prop} {E : Ev} {nL pc index : Nat} {lv : List (Nat × Value)} {rest : List Value} {cc : ByteArray} {own : String} {σ τ : St} {q : Int64}  (hC : Cx p s m args c cc nL own E) {x_a1 : Int32} (a1 : Bool) (hx_a1 : x_a1 = bI a1)  (hl : Cond.methodLink own index y_Ctl_overBecomesInfinite ∈ WL) (hR : 1 + 1 ≤ R.frames ∧ 8 + (3 + 11) + 20 ≤ R.locals) (hs8 : (rest.map fun v => v.category).sum ≤ 8) (d : decode cc pc = .ok (.invokevirtual index, 3)) (k : WS p l e R s m args below meth c Q E nL (pc + 3) lv ((.int (bI (f_Ctl_overBecomesInfinite σ a1))) :: rest) (σ, τ, q)) : WS p l e R s m args below meth c Q E nL pc lv (.int x_a1 :: .ref 3 :: rest) (σ, τ, q) := by
  subst hx_a1
  exact wi_callV hC (n := 1) (vs := [.int (bI a1)]) (rest := rest) 3 2 (by decide) rfl rfl rfl (c_Ctl_overBecomesInfinite l E σ τ q a1 ) (by decide +kernel) wd_160 wd_132 wd_161 wd_162 ⟨rfl, rfl⟩ rfl rfl hl hR hs8 d k
set_option maxRecDepth 100000 in
set_option maxHeartbeats 400000 in
theorem c_Ctl_endsWriting (l : Launch) (E : Ev) (σ τ : St) (q : Int64)   : MF l y_Ctl_endsWriting prog_2_method_5_code 1 (some .boolean) { frames := 0, cells := 0, slots := 0, locals := 0 } E [.ref 3] (σ, τ, q) (some (.int (bI (f_Ctl_endsWriting σ)))) (σ, τ, q) := by
  refine MF_intro (lv0 := [(0, .ref 3)]) (by decide) wd_163 (Nat.le_of_ble_eq_true rfl) rfl ?_
  intro p e s m args below meth c Q hC hr hk hQ
  replace hC : Cx p s m args c prog_2_method_5_code 1 "PartnerStack$Control" E := hC
  refine wi_aload_n hC 0 d_Ctl_endsWriting_0 rfl rfl ?_
  refine wg_Ctl_told hC wd_130 d_Ctl_endsWriting_1 ?_
  refine wi_aload_n hC 0 d_Ctl_endsWriting_4 rfl rfl ?_
  refine wg_Ctl_setting hC wd_135 d_Ctl_endsWriting_5 ?_
  refine wi_iconst hC (-1) (by decide) d_Ctl_endsWriting_8 ?_
  refine wi_ixor hC d_Ctl_endsWriting_9 ?_
  refine wi_iand hC d_Ctl_endsWriting_10 ?_
  refine wi_bipush hC 31 (by decide) d_Ctl_endsWriting_11 ?_
  refine wi_iand hC d_Ctl_endsWriting_13 ?_
  obtain ⟨Tt1, eTt1⟩ : ∃ y : Bool, y = (
          if ((gI σ 7 3) &&& ((gI σ 6 3) ^^^ (-1))) &&& 31 = 0 then
            false
          else
            true) := ⟨_, rfl⟩
  have Jt1 : ∀ (t1 : Bool), Tt1 = t1 → WS p l e { frames := 0, cells := 0, slots := 0, locals := 0 } s m args below meth c Q E 1 22 [(0, .ref 3)] [.int (bI t1)] (σ, τ, q) := by
    intro t1  e_t1
    rw [eTt1] at e_t1
    have hf : f_Ctl_endsWriting σ = t1 := by subst e_t1; exact rfl
    exact wi_zret hC hr hk d_Ctl_endsWriting_22 rfl (congrArg (fun z => some (Value.int (bI z))) hf) rfl hQ
  refine wi_if_eq hC 21 d_Ctl_endsWriting_14 (by decide) (fun h1 => ?_) (fun h1 => ?_)
  · skip
    refine wi_iconst hC 0 (by decide) d_Ctl_endsWriting_21 ?_
    exact Jt1 false (by exact (Eq.trans eTt1 (if_pos h1)))
  · skip
    refine wi_iconst hC 1 (by decide) d_Ctl_endsWriting_17 ?_
    refine wi_goto hC 22 d_Ctl_endsWriting_18 (by decide) ?_
    exact Jt1 true (by exact (Eq.trans eTt1 (if_neg h1)))
theorem k_Ctl_endsWriting {p : Program} {l : Launch} {e : Env} {R : Room} {s : State} {m : MethodId} {args : Array Value} {below : List Frame} {meth : Method} {c : Code} {Q : State → Prop} {E : Ev} {nL pc index : Nat} {lv : List (Nat × Value)} {rest : List Value} {cc : ByteArray} {own : String} {σ τ : St} {q : Int64}  (hC : Cx p s m args c cc nL own E)   (hl : Cond.methodLink own index y_Ctl_endsWriting ∈ WL) (hR : 0 + 1 ≤ R.frames ∧ 8 + (1 + 11) + 0 ≤ R.locals) (hs8 : (rest.map fun v => v.category).sum ≤ 8) (d : decode cc pc = .ok (.invokevirtual index, 3)) (k : WS p l e R s m args below meth c Q E nL (pc + 3) lv ((.int (bI (f_Ctl_endsWriting σ))) :: rest) (σ, τ, q)) : WS p l e R s m args below meth c Q E nL pc lv (.ref 3 :: rest) (σ, τ, q) := by
  exact wi_callV hC (n := 0) (vs := []) (rest := rest) 3 2 (by decide) rfl rfl rfl (c_Ctl_endsWriting l E σ τ q  ) (by decide +kernel) wd_163 wd_132 wd_164 wd_165 ⟨rfl, rfl⟩ rfl rfl hl hR hs8 d k
