set_option maxRecDepth 100000 in
set_option maxHeartbeats 400000 in
theorem c_Steps_sign (l : Launch) (E : Ev) (σ τ : St) (q : Int64) (a1 : Nat) (ha1 : isReal a1) : MF l y_Steps_sign prog_9_method_7_code 1 (some .int) { frames := 1, cells := 0, slots := 0, locals := 20 } E [.ref a1] (σ, τ, q) (some (.int (f_Steps_sign σ a1))) (σ, τ, q) := by
  refine MF_intro (lv0 := [(0, .ref a1)]) (by decide) wd_339 (Nat.le_of_ble_eq_true rfl) rfl ?_
  intro p e s m args below meth c Q hC hr hk hQ
  replace hC : Cx p s m args c prog_9_method_7_code 1 "PartnerStack$Steps" E := hC
  refine wi_aload_n hC 0 d_Steps_sign_0 rfl rfl ?_
  refine k_Real_isNothing hC ha1 wd_337 (by decide) (Nat.le_of_ble_eq_true rfl) d_Steps_sign_1 ?_
  refine wi_z_eq (b := (f_Real_isNothing σ a1)) hC 9 d_Steps_sign_4 (by decide) (fun h1 => ?_) (fun h1 => ?_)
  · skip
    refine wi_aload_n hC 0 d_Steps_sign_9 rfl rfl ?_
    refine wg_Real_minus hC ha1 wd_338 d_Steps_sign_10 ?_
    obtain ⟨Tt1, eTt1⟩ : ∃ y : Int32, y = (
            if gZ σ 15 a1 = true then
              (-1)
            else
              1) := ⟨_, rfl⟩
    have Jt1 : ∀ (t1 : Int32), Tt1 = t1 → WS p l e { frames := 1, cells := 0, slots := 0, locals := 20 } s m args below meth c Q E 1 21 [(0, .ref a1)] [.int t1] (σ, τ, q) := by
      intro t1  e_t1
      rw [eTt1] at e_t1
      have hf : f_Steps_sign σ a1 = t1 := by subst e_t1; exact (if_neg h1)
      exact wi_iret hC hr hk d_Steps_sign_21 (congrArg (fun z => some (Value.int z)) hf) rfl hQ
    refine wi_z_eq (b := (gZ σ 15 a1)) hC 20 d_Steps_sign_13 (by decide) (fun h2 => ?_) (fun h2 => ?_)
    · skip
      refine wi_iconst hC 1 (by decide) d_Steps_sign_20 ?_
      exact Jt1 1 (by exact (Eq.trans eTt1 (if_neg h2)))
    · skip
      refine wi_iconst hC (-1) (by decide) d_Steps_sign_16 ?_
      refine wi_goto hC 21 d_Steps_sign_17 (by decide) ?_
      exact Jt1 (-1) (by exact (Eq.trans eTt1 (if_pos h2)))
  · skip
    refine wi_iconst hC 0 (by decide) d_Steps_sign_7 ?_
    have hf : f_Steps_sign σ a1 = 0 := by exact (if_pos h1)
    exact wi_iret hC hr hk d_Steps_sign_8 (congrArg (fun z => some (Value.int z)) hf) rfl hQ
theorem k_Steps_sign {p : Program} {l : Launch} {e : Env} {R : Room} {s : State} {m : MethodId} {args : Array Value} {below : List Frame} {meth : Method} {c : Code} {Q : State → Prop} {E : Ev} {nL pc index : Nat} {lv : List (Nat × Value)} {rest : List Value} {cc : ByteArray} {own : String} {σ τ : St} {q : Int64} {a1 : Nat} (hC : Cx p s m args c cc nL own E)  (ha1 : isReal a1) (hl : Cond.methodLink own index y_Steps_sign ∈ WL) (hR : 1 + 1 ≤ R.frames ∧ 8 + (1 + 11) + 20 ≤ R.locals) (hs8 : (rest.map fun v => v.category).sum ≤ 8) (d : decode cc pc = .ok (.invokestatic index, 3)) (k : WS p l e R s m args below meth c Q E nL (pc + 3) lv ((.int (f_Steps_sign σ a1)) :: rest) (σ, τ, q)) : WS p l e R s m args below meth c Q E nL pc lv (.ref a1 :: rest) (σ, τ, q) := by
  exact wi_callS hC (n := 1) (vs := [.ref a1]) (rest := rest) (c_Steps_sign l E σ τ q a1 ha1) (by decide +kernel) wd_339 wd_340 wd_341 ⟨rfl, rfl⟩ rfl rfl hl hR hs8 d k
set_option maxRecDepth 100000 in
set_option maxHeartbeats 400000 in
theorem c_Steps_compare (l : Launch) (E : Ev) (σ τ : St) (q : Int64) (a1 : Nat) (a2 : Nat) (a3 : Nat) (ha1 : isReal a1) (ha2 : isReal a2) (ha3 : isReal a3) : MF l y_Steps_compare prog_9_method_6_code 7 (some .int) { frames := 3, cells := 0, slots := 0, locals := 69 } E [.ref 25, .ref a1, .ref a2, .ref a3] (σ, τ, q) (some (.int ((f_Steps_compare σ a1 a2 a3).1))) ((f_Steps_compare σ a1 a2 a3).2, τ, q) := by
  refine MF_intro (lv0 := [(0, .ref 25), (1, .ref a1), (2, .ref a2), (3, .ref a3)]) (by decide) wd_351 (Nat.le_of_ble_eq_true rfl) rfl ?_
  intro p e s m args below meth c Q hC hr hk hQ
  replace hC : Cx p s m args c prog_9_method_6_code 7 "PartnerStack$Steps" E := hC
  refine wi_aload_n hC 0 d_Steps_compare_0 rfl rfl ?_
  refine wg_Steps_control hC wd_342 d_Steps_compare_1 ?_
  refine k_Ctl_knowsOneInfinite hC  wd_343 (by decide) (Nat.le_of_ble_eq_true rfl) d_Steps_compare_4 ?_
  refine wi_nmZ (fun v1 e_v1 => ?_)
  refine wi_istore hC [(4, .int (bI v1)), (0, .ref 25), (1, .ref a1), (2, .ref a2), (3, .ref a3)] d_Steps_compare_7 (by decide) rfl ?_
  refine wi_aload_n hC 1 d_Steps_compare_9 rfl rfl ?_
  refine wg_Steps_control hC wd_342 d_Steps_compare_10 ?_
  refine wi_aload_n hC 2 d_Steps_compare_13 rfl rfl ?_
  refine wi_aload_n hC 3 d_Steps_compare_14 rfl rfl ?_
  refine wi_iload hC 0 d_Steps_compare_15 rfl ?_
  obtain ⟨Tt1, eTt1⟩ : ∃ y : Bool, y = (
          if v1 = true then
            if f_Real_isInfinite σ a1 = f_Real_isInfinite σ a2 then
              false
            else
              true
          else
            false) := ⟨_, rfl⟩
  have Jt1 : ∀ (t1 : Bool), Tt1 = t1 → WS p l e { frames := 3, cells := 0, slots := 0, locals := 69 } s m args below meth c Q E 7 36 [(4, .int (bI v1)), (0, .ref 25), (1, .ref a1), (2, .ref a2), (3, .ref a3)] [.int (bI t1), .ref a2, .ref a1, .ref 3] (σ, τ, q) := by
    intro t1  e_t1
    rw [eTt1] at e_t1
    refine wi_aload_n hC 4 d_Steps_compare_36 rfl rfl ?_
    refine k_Ctl_settles hC t1 rfl ha1 ha2 ha3 wd_345 (by decide) (Nat.le_of_ble_eq_true rfl) d_Steps_compare_37 ?_
    obtain ⟨r1, e_r1⟩ : ∃ y : Bool × St, f_Ctl_settles σ a1 a2 t1 a3 = y := ⟨_, rfl⟩
    rw [e_r1]
    refine wi_z_eq (b := r1.1) hC 45 d_Steps_compare_40 (by decide) (fun h3 => ?_) (fun h3 => ?_)
    · skip
      refine wi_aload_n hC 2 d_Steps_compare_45 rfl rfl ?_
      refine k_Real_isInfinite hC ha1 wd_344 (by decide) (Nat.le_of_ble_eq_true rfl) d_Steps_compare_46 ?_
      have B1 : f_Steps_compare σ a1 a2 a3 = f_Steps_compare_b59 a1 a2 v1 r1 → WS p l e { frames := 3, cells := 0, slots := 0, locals := 69 } s m args below meth c Q E 7 59 [(4, .int (bI v1)), (0, .ref 25), (1, .ref a1), (2, .ref a2), (3, .ref a3)] [] (r1.2, τ, q) := by
        intro hB1
        refine wi_aload_n hC 2 d_Steps_compare_59 rfl rfl ?_
        refine k_Real_isInfinite hC ha1 wd_344 (by decide) (Nat.le_of_ble_eq_true rfl) d_Steps_compare_60 ?_
        obtain ⟨Tt3, eTt3⟩ : ∃ y : Int32, y = (
                if f_Real_isInfinite r1.2 a1 = true then
                  f_Steps_sign r1.2 a1
                else
                  0) := ⟨_, rfl⟩
        have Jt3 : ∀ (t3 : Int32), Tt3 = t3 → WS p l e { frames := 3, cells := 0, slots := 0, locals := 69 } s m args below meth c Q E 7 74 [(4, .int (bI v1)), (0, .ref 25), (1, .ref a1), (2, .ref a2), (3, .ref a3)] [.int t3] (r1.2, τ, q) := by
          intro t3  e_t3
          rw [eTt3] at e_t3
          refine wi_istore hC [(5, .int t3), (4, .int (bI v1)), (0, .ref 25), (1, .ref a1), (2, .ref a2), (3, .ref a3)] d_Steps_compare_74 (by decide) rfl ?_
          refine wi_aload_n hC 4 d_Steps_compare_76 rfl rfl ?_
          refine k_Real_isInfinite hC ha2 wd_344 (by decide) (Nat.le_of_ble_eq_true rfl) d_Steps_compare_77 ?_
          obtain ⟨Tt4, eTt4⟩ : ∃ y : Int32, y = (
                  if f_Real_isInfinite r1.2 a2 = true then
                    f_Steps_sign r1.2 a2
                  else
                    0) := ⟨_, rfl⟩
          have Jt4 : ∀ (t4 : Int32), Tt4 = t4 → WS p l e { frames := 3, cells := 0, slots := 0, locals := 69 } s m args below meth c Q E 7 91 [(5, .int t3), (4, .int (bI v1)), (0, .ref 25), (1, .ref a1), (2, .ref a2), (3, .ref a3)] [.int t4] (r1.2, τ, q) := by
            intro t4  e_t4
            rw [eTt4] at e_t4
            refine wi_istore hC [(6, .int t4), (5, .int t3), (4, .int (bI v1)), (0, .ref 25), (1, .ref a1), (2, .ref a2), (3, .ref a3)] d_Steps_compare_91 (by decide) rfl ?_
            refine wi_iload hC 2 d_Steps_compare_93 rfl ?_
            obtain ⟨Tt5, eTt5⟩ : ∃ y : Int32, y = (
                    if v1 = true then
                      0
                    else
                      if t3 = t4 then
                        0
                      else
                        if t4 ≤ t3 then
                          1
                        else
                          (-1)) := ⟨_, rfl⟩
            have Jt5 : ∀ (t5 : Int32), Tt5 = t5 → WS p l e { frames := 3, cells := 0, slots := 0, locals := 69 } s m args below meth c Q E 7 121 [(6, .int t4), (5, .int t3), (4, .int (bI v1)), (0, .ref 25), (1, .ref a1), (2, .ref a2), (3, .ref a3)] [.int t5] (r1.2, τ, q) := by
              intro t5  e_t5
              rw [eTt5] at e_t5
              have hf : f_Steps_compare σ a1 a2 a3 = (t5, r1.2) := by subst e_t5; subst e_t4; subst e_t3; exact hB1
              exact wi_iret hC hr hk d_Steps_compare_121 (congrArg (fun z => some (Value.int z.1)) hf) (congrArg (fun z => (z.2, τ, q)) hf).symm hQ
            refine wi_z_ne (b := v1) hC 105 d_Steps_compare_95 (by decide) (fun h10 => ?_) (fun h10 => ?_)
            · skip
              refine wi_iconst hC 0 (by decide) d_Steps_compare_105 ?_
              refine wi_goto hC 121 d_Steps_compare_106 (by decide) ?_
              exact Jt5 0 (by exact (Eq.trans eTt5 (if_pos h10)))
            · skip
              refine wi_iload hC 1 d_Steps_compare_98 rfl ?_
              refine wi_iload hC 0 d_Steps_compare_100 rfl ?_
              refine wi_icmp_ne hC 109 d_Steps_compare_102 (by decide) (fun h11 => ?_) (fun h11 => ?_)
              · skip
                refine wi_iload hC 1 d_Steps_compare_109 rfl ?_
                refine wi_iload hC 0 d_Steps_compare_111 rfl ?_
                refine wi_icmp_ge hC 120 d_Steps_compare_113 (by decide) (fun h12 => ?_) (fun h12 => ?_)
                · skip
                  refine wi_iconst hC 1 (by decide) d_Steps_compare_120 ?_
                  exact Jt5 1 (by exact (Eq.trans eTt5 (Eq.trans (if_neg h10) (Eq.trans (if_neg h11) (if_pos h12)))))
                · skip
                  refine wi_iconst hC (-1) (by decide) d_Steps_compare_116 ?_
                  refine wi_goto hC 121 d_Steps_compare_117 (by decide) ?_
                  exact Jt5 (-1) (by exact (Eq.trans eTt5 (Eq.trans (if_neg h10) (Eq.trans (if_neg h11) (if_neg h12)))))
              · skip
                refine wi_iconst hC 0 (by decide) d_Steps_compare_105 ?_
                refine wi_goto hC 121 d_Steps_compare_106 (by decide) ?_
                exact Jt5 0 (by exact (Eq.trans eTt5 (Eq.trans (if_neg h10) (if_pos h11))))
          refine wi_z_eq (b := (f_Real_isInfinite r1.2 a2)) hC 90 d_Steps_compare_80 (by decide) (fun h9 => ?_) (fun h9 => ?_)
          · skip
            refine wi_iconst hC 0 (by decide) d_Steps_compare_90 ?_
            exact Jt4 0 (by exact (Eq.trans eTt4 (if_neg h9)))
          · skip
            refine wi_aload_n hC 4 d_Steps_compare_83 rfl rfl ?_
            refine k_Steps_sign hC ha2 wd_346 (by decide) (Nat.le_of_ble_eq_true rfl) d_Steps_compare_84 ?_
            refine wi_goto hC 91 d_Steps_compare_87 (by decide) ?_
            exact Jt4 (f_Steps_sign r1.2 a2) (by exact (Eq.trans eTt4 (if_pos h9)))
        refine wi_z_eq (b := (f_Real_isInfinite r1.2 a1)) hC 73 d_Steps_compare_63 (by decide) (fun h8 => ?_) (fun h8 => ?_)
        · skip
          refine wi_iconst hC 0 (by decide) d_Steps_compare_73 ?_
          exact Jt3 0 (by exact (Eq.trans eTt3 (if_neg h8)))
        · skip
          refine wi_aload_n hC 2 d_Steps_compare_66 rfl rfl ?_
          refine k_Steps_sign hC ha1 wd_346 (by decide) (Nat.le_of_ble_eq_true rfl) d_Steps_compare_67 ?_
          refine wi_goto hC 74 d_Steps_compare_70 (by decide) ?_
          exact Jt3 (f_Steps_sign r1.2 a1) (by exact (Eq.trans eTt3 (if_pos h8)))
      refine wi_z_ne (b := (f_Real_isInfinite r1.2 a1)) hC 59 d_Steps_compare_49 (by decide) (fun h4 => ?_) (fun h4 => ?_)
      · skip
        exact B1   (by subst e_r1; subst e_t1; subst e_v1; exact (Eq.trans (if_neg h3) (if_pos h4)))
      · skip
        refine wi_aload_n hC 3 d_Steps_compare_52 rfl rfl ?_
        refine k_Real_isInfinite hC ha2 wd_344 (by decide) (Nat.le_of_ble_eq_true rfl) d_Steps_compare_53 ?_
        refine wi_z_eq (b := (f_Real_isInfinite r1.2 a2)) hC 122 d_Steps_compare_56 (by decide) (fun h5 => ?_) (fun h5 => ?_)
        · skip
          refine wi_aload_n hC 2 d_Steps_compare_122 rfl rfl ?_
          refine k_Steps_sign hC ha1 wd_346 (by decide) (Nat.le_of_ble_eq_true rfl) d_Steps_compare_123 ?_
          refine wi_nmI (fun v2 e_v2 => ?_)
          refine wi_istore hC [(5, .int v2), (4, .int (bI v1)), (0, .ref 25), (1, .ref a1), (2, .ref a2), (3, .ref a3)] d_Steps_compare_126 (by decide) rfl ?_
          refine wi_aload_n hC 4 d_Steps_compare_128 rfl rfl ?_
          refine k_Steps_sign hC ha2 wd_346 (by decide) (Nat.le_of_ble_eq_true rfl) d_Steps_compare_129 ?_
          refine wi_nmI (fun v3 e_v3 => ?_)
          refine wi_istore hC [(6, .int v3), (5, .int v2), (4, .int (bI v1)), (0, .ref 25), (1, .ref a1), (2, .ref a2), (3, .ref a3)] d_Steps_compare_132 (by decide) rfl ?_
          refine wi_iload hC 1 d_Steps_compare_134 rfl ?_
          refine wi_iload hC 0 d_Steps_compare_136 rfl ?_
          refine wi_icmp_eq hC 154 d_Steps_compare_138 (by decide) (fun h6 => ?_) (fun h6 => ?_)
          · skip
            refine wi_aload_n hC 3 d_Steps_compare_154 rfl rfl ?_
            refine wg_Steps_x hC wd_347 d_Steps_compare_155 ?_
            refine wi_aload_n hC 4 d_Steps_compare_158 rfl rfl ?_
            refine k_Size_load hC (by unfold isSize; decide) ha1 wd_348 (by decide) (Nat.le_of_ble_eq_true rfl) d_Steps_compare_159 ?_
            refine wi_nmC (fun s1 e_s1 => ?_)
            refine wi_aload_n hC 3 d_Steps_compare_162 rfl rfl ?_
            refine wg_Steps_y hC wd_349 d_Steps_compare_163 ?_
            refine wi_aload_n hC 5 d_Steps_compare_166 rfl rfl ?_
            refine k_Size_load hC (by unfold isSize; decide) ha2 wd_348 (by decide) (Nat.le_of_ble_eq_true rfl) d_Steps_compare_167 ?_
            refine wi_nmC (fun s2 e_s2 => ?_)
            refine wi_iload hC 1 d_Steps_compare_170 rfl ?_
            refine wi_aload_n hC 3 d_Steps_compare_172 rfl rfl ?_
            refine wg_Steps_x hC wd_347 d_Steps_compare_173 ?_
            refine wi_aload_n hC 3 d_Steps_compare_176 rfl rfl ?_
            refine wg_Steps_y hC wd_349 d_Steps_compare_177 ?_
            refine k_Size_against hC (by unfold isSize; decide) (by unfold isSize; decide) wd_350 (by decide) (Nat.le_of_ble_eq_true rfl) d_Steps_compare_180 ?_
            refine wi_imul hC d_Steps_compare_183 ?_
            have hf : f_Steps_compare σ a1 a2 a3 = (v2 * (f_Size_against s2 6 7), s2) := by subst e_s2; subst e_s1; subst e_v3; subst e_v2; subst e_r1; subst e_t1; subst e_v1; exact (Eq.trans (if_neg h3) (Eq.trans (if_neg h4) (Eq.trans (if_neg h5) (if_pos h6))))
            exact wi_iret hC hr hk d_Steps_compare_184 (congrArg (fun z => some (Value.int z.1)) hf) (congrArg (fun z => (z.2, τ, q)) hf).symm hQ
          · skip
            refine wi_iload hC 1 d_Steps_compare_141 rfl ?_
            refine wi_iload hC 0 d_Steps_compare_143 rfl ?_
            obtain ⟨Tt2, eTt2⟩ : ∃ y : Int32, y = (
                    if v3 ≤ v2 then
                      1
                    else
                      (-1)) := ⟨_, rfl⟩
            have Jt2 : ∀ (t2 : Int32), Tt2 = t2 → WS p l e { frames := 3, cells := 0, slots := 0, locals := 69 } s m args below meth c Q E 7 153 [(6, .int v3), (5, .int v2), (4, .int (bI v1)), (0, .ref 25), (1, .ref a1), (2, .ref a2), (3, .ref a3)] [.int t2] (r1.2, τ, q) := by
              intro t2  e_t2
              rw [eTt2] at e_t2
              have hf : f_Steps_compare σ a1 a2 a3 = (t2, r1.2) := by subst e_t2; subst e_v3; subst e_v2; subst e_r1; subst e_t1; subst e_v1; exact (Eq.trans (if_neg h3) (Eq.trans (if_neg h4) (Eq.trans (if_neg h5) (if_neg h6))))
              exact wi_iret hC hr hk d_Steps_compare_153 (congrArg (fun z => some (Value.int z.1)) hf) (congrArg (fun z => (z.2, τ, q)) hf).symm hQ
            refine wi_icmp_ge hC 152 d_Steps_compare_145 (by decide) (fun h7 => ?_) (fun h7 => ?_)
            · skip
              refine wi_iconst hC 1 (by decide) d_Steps_compare_152 ?_
              exact Jt2 1 (by exact (Eq.trans eTt2 (if_pos h7)))
            · skip
              refine wi_iconst hC (-1) (by decide) d_Steps_compare_148 ?_
              refine wi_goto hC 153 d_Steps_compare_149 (by decide) ?_
              exact Jt2 (-1) (by exact (Eq.trans eTt2 (if_neg h7)))
        · skip
          exact B1   (by subst e_r1; subst e_t1; subst e_v1; exact (Eq.trans (if_neg h3) (Eq.trans (if_neg h4) (if_pos h5))))
    · skip
      refine wi_iconst hC 2 (by decide) d_Steps_compare_43 ?_
      have hf : f_Steps_compare σ a1 a2 a3 = (2, r1.2) := by subst e_r1; subst e_t1; subst e_v1; exact (if_pos h3)
      exact wi_iret hC hr hk d_Steps_compare_44 (congrArg (fun z => some (Value.int z.1)) hf) (congrArg (fun z => (z.2, τ, q)) hf).symm hQ
  refine wi_z_eq (b := v1) hC 35 d_Steps_compare_17 (by decide) (fun h1 => ?_) (fun h1 => ?_)
  · skip
    refine wi_iconst hC 0 (by decide) d_Steps_compare_35 ?_
    exact Jt1 false (by exact (Eq.trans eTt1 (if_neg h1)))
  · skip
    refine wi_aload_n hC 2 d_Steps_compare_20 rfl rfl ?_
    refine k_Real_isInfinite hC ha1 wd_344 (by decide) (Nat.le_of_ble_eq_true rfl) d_Steps_compare_21 ?_
    refine wi_aload_n hC 3 d_Steps_compare_24 rfl rfl ?_
    refine k_Real_isInfinite hC ha2 wd_344 (by decide) (Nat.le_of_ble_eq_true rfl) d_Steps_compare_25 ?_
    refine wi_zc_eq (a := (f_Real_isInfinite σ a1)) (b := (f_Real_isInfinite σ a2)) hC 35 d_Steps_compare_28 (by decide) (fun h2 => ?_) (fun h2 => ?_)
    · skip
      refine wi_iconst hC 0 (by decide) d_Steps_compare_35 ?_
      exact Jt1 false (by exact (Eq.trans eTt1 (Eq.trans (if_pos h1) (if_pos h2))))
    · skip
      refine wi_iconst hC 1 (by decide) d_Steps_compare_31 ?_
      refine wi_goto hC 36 d_Steps_compare_32 (by decide) ?_
      exact Jt1 true (by exact (Eq.trans eTt1 (Eq.trans (if_pos h1) (if_neg h2))))
theorem k_Steps_compare {p : Program} {l : Launch} {e : Env} {R : Room} {s : State} {m : MethodId} {args : Array Value} {below : List Frame} {meth : Method} {c : Code} {Q : State → Prop} {E : Ev} {nL pc index : Nat} {lv : List (Nat × Value)} {rest : List Value} {cc : ByteArray} {own : String} {σ τ : St} {q : Int64} {a1 : Nat} {a2 : Nat} {a3 : Nat} (hC : Cx p s m args c cc nL own E)  (ha1 : isReal a1) (ha2 : isReal a2) (ha3 : isReal a3) (hl : Cond.methodLink own index y_Steps_compare ∈ WL) (hR : 3 + 1 ≤ R.frames ∧ 8 + (7 + 11) + 69 ≤ R.locals) (hs8 : (rest.map fun v => v.category).sum ≤ 8) (d : decode cc pc = .ok (.invokevirtual index, 3)) (k : WS p l e R s m args below meth c Q E nL (pc + 3) lv ((.int ((f_Steps_compare σ a1 a2 a3).1)) :: rest) ((f_Steps_compare σ a1 a2 a3).2, τ, q)) : WS p l e R s m args below meth c Q E nL pc lv (.ref a3 :: .ref a2 :: .ref a1 :: .ref 25 :: rest) (σ, τ, q) := by
  exact wi_callV hC (n := 3) (vs := [.ref a1, .ref a2, .ref a3]) (rest := rest) 25 7 (by decide) rfl rfl rfl (c_Steps_compare l E σ τ q a1 a2 a3 ha1 ha2 ha3) (by decide +kernel) wd_351 wd_340 wd_352 wd_353 ⟨rfl, rfl⟩ rfl rfl hl hR hs8 d k
set_option maxRecDepth 100000 in
set_option maxHeartbeats 400000 in
theorem c_Steps_extract (l : Launch) (E : Ev) (σ τ : St) (q : Int64) (a1 : Nat) (a2 : Nat) (a3 : Nat) (ha1 : isReal a1) (ha2 : isReal a2) (ha3 : isReal a3) : MF l y_Steps_extract prog_9_method_4_code 5 none { frames := 4, cells := 0, slots := 0, locals := 106 } E [.ref 25, .ref a1, .ref a2, .ref a3] (σ, τ, q) none ((f_Steps_extract σ a1 a2 a3), τ, q) := by
  refine MF_intro (lv0 := [(0, .ref 25), (1, .ref a1), (2, .ref a2), (3, .ref a3)]) (by decide) wd_363 (Nat.le_of_ble_eq_true rfl) rfl ?_
  intro p e s m args below meth c Q hC hr hk hQ
  replace hC : Cx p s m args c prog_9_method_4_code 5 "PartnerStack$Steps" E := hC
  refine wi_aload_n hC 0 d_Steps_extract_0 rfl rfl ?_
  refine wg_Steps_control hC wd_342 d_Steps_extract_1 ?_
  refine wi_aload_n hC 1 d_Steps_extract_4 rfl rfl ?_
  refine wi_aload_n hC 1 d_Steps_extract_5 rfl rfl ?_
  refine wi_iconst hC 0 (by decide) d_Steps_extract_6 ?_
  refine wi_aload_n hC 3 d_Steps_extract_7 rfl rfl ?_
  refine k_Ctl_settles hC false rfl ha1 ha1 ha3 wd_345 (by decide) (Nat.le_of_ble_eq_true rfl) d_Steps_extract_8 ?_
  obtain ⟨r1, e_r1⟩ : ∃ y : Bool × St, f_Ctl_settles σ a1 a1 false a3 = y := ⟨_, rfl⟩
  rw [e_r1]
  obtain ⟨Tt1, eTt1⟩ : ∃ y : St, y = (
          if r1.1 = true then
            let s11 : St := f_Real_take r1.2 a2 a3
            s11
          else
            if f_Real_isInfinite r1.2 a1 = true then
              let s9 : St := f_Real_setInfinite r1.2 a2 false
              let s10 : St := f_Real_take s9 a3 a1
              s10
            else
              if f_Real_isNothing r1.2 a1 = true then
                let s6 : St := f_Ctl_tell r1.2 4
                let s7 : St := f_Real_setInfinite s6 a2 true
                let s8 : St := f_Real_setZero s7 a3 (gZ s7 15 a1)
                s8
              else
                let s1 : St := f_Size_load r1.2 6 a1
                let v1 : Int32 := f_Size_exponent s1 6
                let s2 : St := sI s1 11 6 (-127)
                let s3 : St := f_Maker_make s2 11 6 (gZ s2 15 a1) 64 a3
                let t2 : Int64 := 
                    if 0 ≤ v1 then
                      Int32.toInt64 v1
                    else
                      Int32.toInt64 (-v1)
                let s4 : St := f_Size_loadTimes s3 6 t2 0
                let t3 : Bool := 
                    if 0 ≤ v1 then
                      false
                    else
                      true
                let s5 : St := f_Maker_make s4 11 6 t3 64 a2
                s5) := ⟨_, rfl⟩
  have Jt1 : ∀ (t1 : St), Tt1 = t1 → WS p l e { frames := 4, cells := 0, slots := 0, locals := 106 } s m args below meth c Q E 5 164 [(0, .ref 25), (1, .ref a1), (2, .ref a2), (3, .ref a3)] [] (t1, τ, q) := by
    intro t1  e_t1
    rw [eTt1] at e_t1
    have hf : f_Steps_extract σ a1 a2 a3 = t1 := by subst e_t1; subst e_r1; exact rfl
    exact wi_vret hC hr hk d_Steps_extract_164 rfl (congrArg (fun z => (z, τ, q)) hf).symm hQ
  refine wi_z_eq (b := r1.1) hC 22 d_Steps_extract_11 (by decide) (fun h1 => ?_) (fun h1 => ?_)
  · skip
    refine wi_aload_n hC 1 d_Steps_extract_22 rfl rfl ?_
    refine k_Real_isInfinite hC ha1 wd_344 (by decide) (Nat.le_of_ble_eq_true rfl) d_Steps_extract_23 ?_
    refine wi_z_eq (b := (f_Real_isInfinite r1.2 a1)) hC 42 d_Steps_extract_26 (by decide) (fun h2 => ?_) (fun h2 => ?_)
    · skip
      refine wi_aload_n hC 1 d_Steps_extract_42 rfl rfl ?_
      refine k_Real_isNothing hC ha1 wd_337 (by decide) (Nat.le_of_ble_eq_true rfl) d_Steps_extract_43 ?_
      refine wi_z_eq (b := (f_Real_isNothing r1.2 a1)) hC 73 d_Steps_extract_46 (by decide) (fun h3 => ?_) (fun h3 => ?_)
      · skip
        refine wi_aload_n hC 0 d_Steps_extract_73 rfl rfl ?_
        refine wg_Steps_x hC wd_347 d_Steps_extract_74 ?_
        refine wi_aload_n hC 1 d_Steps_extract_77 rfl rfl ?_
        refine k_Size_load hC (by unfold isSize; decide) ha1 wd_348 (by decide) (Nat.le_of_ble_eq_true rfl) d_Steps_extract_78 ?_
        refine wi_nmC (fun s1 e_s1 => ?_)
        refine wi_aload_n hC 0 d_Steps_extract_81 rfl rfl ?_
        refine wg_Steps_x hC wd_347 d_Steps_extract_82 ?_
        refine k_Size_exponent hC (by unfold isSize; decide) wd_354 (by decide) (Nat.le_of_ble_eq_true rfl) d_Steps_extract_85 ?_
        refine wi_nmI (fun v1 e_v1 => ?_)
        refine wi_istore hC [(4, .int v1), (0, .ref 25), (1, .ref a1), (2, .ref a2), (3, .ref a3)] d_Steps_extract_88 (by decide) rfl ?_
        refine wi_aload_n hC 1 d_Steps_extract_90 rfl rfl ?_
        refine wg_Steps_x hC wd_347 d_Steps_extract_91 ?_
        refine wi_bipush hC (-127) (by decide) d_Steps_extract_94 ?_
        refine wp_Size_unit hC (by unfold isSize; decide) wd_355 d_Steps_extract_96 ?_
        refine wi_nmC (fun s2 e_s2 => ?_)
        refine wi_aload_n hC 1 d_Steps_extract_99 rfl rfl ?_
        refine wg_Steps_maker hC wd_356 d_Steps_extract_100 ?_
        refine wi_aload_n hC 1 d_Steps_extract_103 rfl rfl ?_
        refine wg_Steps_x hC wd_347 d_Steps_extract_104 ?_
        refine wi_aload_n hC 2 d_Steps_extract_107 rfl rfl ?_
        refine wg_Real_minus hC ha1 wd_338 d_Steps_extract_108 ?_
        refine wi_bipush hC 64 (by decide) d_Steps_extract_111 ?_
        refine wi_aload_n hC 4 d_Steps_extract_113 rfl rfl ?_
        refine k_Maker_make hC (gZ s2 15 a1) rfl (by unfold isMaker; decide) (by unfold isSize; decide) ha3 wd_357 (by decide) (Nat.le_of_ble_eq_true rfl) d_Steps_extract_114 ?_
        refine wi_nmC (fun s3 e_s3 => ?_)
        refine wi_aload_n hC 1 d_Steps_extract_117 rfl rfl ?_
        refine wg_Steps_x hC wd_347 d_Steps_extract_118 ?_
        refine wi_iload hC 0 d_Steps_extract_121 rfl ?_
        obtain ⟨Tt2, eTt2⟩ : ∃ y : Int64, y = (
                if 0 ≤ v1 then
                  Int32.toInt64 v1
                else
                  Int32.toInt64 (-v1)) := ⟨_, rfl⟩
        have Jt2 : ∀ (t2 : Int64), Tt2 = t2 → WS p l e { frames := 4, cells := 0, slots := 0, locals := 106 } s m args below meth c Q E 5 136 [(4, .int v1), (0, .ref 25), (1, .ref a1), (2, .ref a2), (3, .ref a3)] [.long t2, .ref 6] (s3, τ, q) := by
          intro t2  e_t2
          rw [eTt2] at e_t2
          refine wi_iconst hC 0 (by decide) d_Steps_extract_136 ?_
          refine k_Size_loadTimes hC (by unfold isSize; decide) wd_358 (by decide) (Nat.le_of_ble_eq_true rfl) d_Steps_extract_137 ?_
          refine wi_nmC (fun s4 e_s4 => ?_)
          refine wi_aload_n hC 1 d_Steps_extract_140 rfl rfl ?_
          refine wg_Steps_maker hC wd_356 d_Steps_extract_141 ?_
          refine wi_aload_n hC 1 d_Steps_extract_144 rfl rfl ?_
          refine wg_Steps_x hC wd_347 d_Steps_extract_145 ?_
          refine wi_iload hC 0 d_Steps_extract_148 rfl ?_
          obtain ⟨Tt3, eTt3⟩ : ∃ y : Bool, y = (
                  if 0 ≤ v1 then
                    false
                  else
                    true) := ⟨_, rfl⟩
          have Jt3 : ∀ (t3 : Bool), Tt3 = t3 → WS p l e { frames := 4, cells := 0, slots := 0, locals := 106 } s m args below meth c Q E 5 158 [(4, .int v1), (0, .ref 25), (1, .ref a1), (2, .ref a2), (3, .ref a3)] [.int (bI t3), .ref 6, .ref 11] (s4, τ, q) := by
            intro t3  e_t3
            rw [eTt3] at e_t3
            refine wi_bipush hC 64 (by decide) d_Steps_extract_158 ?_
            refine wi_aload_n hC 3 d_Steps_extract_160 rfl rfl ?_
            refine k_Maker_make hC t3 rfl (by unfold isMaker; decide) (by unfold isSize; decide) ha2 wd_357 (by decide) (Nat.le_of_ble_eq_true rfl) d_Steps_extract_161 ?_
            refine wi_nmC (fun s5 e_s5 => ?_)
            refine wi_lv [1, 2, 3, 4] [(0, .ref 25), (1, .ref a1), (2, .ref a2), (3, .ref a3)] rfl ?_
            exact Jt1 s5 (by subst e_s5; subst e_t3; subst e_s4; subst e_t2; subst e_s3; subst e_s2; subst e_v1; subst e_s1; exact (Eq.trans eTt1 (Eq.trans (if_neg h1) (Eq.trans (if_neg h2) (if_neg h3)))))
          refine wi_if_ge hC 157 d_Steps_extract_150 (by decide) (fun h5 => ?_) (fun h5 => ?_)
          · skip
            refine wi_iconst hC 0 (by decide) d_Steps_extract_157 ?_
            exact Jt3 false (by exact (Eq.trans eTt3 (if_pos h5)))
          · skip
            refine wi_iconst hC 1 (by decide) d_Steps_extract_153 ?_
            refine wi_goto hC 158 d_Steps_extract_154 (by decide) ?_
            exact Jt3 true (by exact (Eq.trans eTt3 (if_neg h5)))
        refine wi_if_ge hC 133 d_Steps_extract_123 (by decide) (fun h4 => ?_) (fun h4 => ?_)
        · skip
          refine wi_iload hC 0 d_Steps_extract_133 rfl ?_
          refine wi_i2l hC d_Steps_extract_135 ?_
          exact Jt2 (Int32.toInt64 v1) (by exact (Eq.trans eTt2 (if_pos h4)))
        · skip
          refine wi_iload hC 0 d_Steps_extract_126 rfl ?_
          refine wi_ineg hC d_Steps_extract_128 ?_
          refine wi_i2l hC d_Steps_extract_129 ?_
          refine wi_goto hC 136 d_Steps_extract_130 (by decide) ?_
          exact Jt2 (Int32.toInt64 (-v1)) (by exact (Eq.trans eTt2 (if_neg h4)))
      · skip
        refine wi_aload_n hC 0 d_Steps_extract_49 rfl rfl ?_
        refine wg_Steps_control hC wd_342 d_Steps_extract_50 ?_
        refine wi_iconst hC 4 (by decide) d_Steps_extract_53 ?_
        refine k_Ctl_tell hC  wd_359 (by decide) (Nat.le_of_ble_eq_true rfl) d_Steps_extract_54 ?_
        refine wi_nmC (fun s6 e_s6 => ?_)
        refine wi_aload_n hC 2 d_Steps_extract_57 rfl rfl ?_
        refine wi_iconst hC 1 (by decide) d_Steps_extract_58 ?_
        refine k_Real_setInfinite hC true rfl ha2 wd_360 (by decide) (Nat.le_of_ble_eq_true rfl) d_Steps_extract_59 ?_
        refine wi_nmC (fun s7 e_s7 => ?_)
        refine wi_aload_n hC 3 d_Steps_extract_62 rfl rfl ?_
        refine wi_aload_n hC 1 d_Steps_extract_63 rfl rfl ?_
        refine wg_Real_minus hC ha1 wd_338 d_Steps_extract_64 ?_
        refine k_Real_setZero hC (gZ s7 15 a1) rfl ha3 wd_361 (by decide) (Nat.le_of_ble_eq_true rfl) d_Steps_extract_67 ?_
        refine wi_nmC (fun s8 e_s8 => ?_)
        refine wi_goto hC 164 d_Steps_extract_70 (by decide) ?_
        exact Jt1 s8 (by subst e_s8; subst e_s7; subst e_s6; exact (Eq.trans eTt1 (Eq.trans (if_neg h1) (Eq.trans (if_neg h2) (if_pos h3)))))
    · skip
      refine wi_aload_n hC 2 d_Steps_extract_29 rfl rfl ?_
      refine wi_iconst hC 0 (by decide) d_Steps_extract_30 ?_
      refine k_Real_setInfinite hC false rfl ha2 wd_360 (by decide) (Nat.le_of_ble_eq_true rfl) d_Steps_extract_31 ?_
      refine wi_nmC (fun s9 e_s9 => ?_)
      refine wi_aload_n hC 3 d_Steps_extract_34 rfl rfl ?_
      refine wi_aload_n hC 1 d_Steps_extract_35 rfl rfl ?_
      refine k_Real_take hC ha3 ha1 wd_362 (by decide) (Nat.le_of_ble_eq_true rfl) d_Steps_extract_36 ?_
      refine wi_nmC (fun s10 e_s10 => ?_)
      refine wi_goto hC 164 d_Steps_extract_39 (by decide) ?_
      exact Jt1 s10 (by subst e_s10; subst e_s9; exact (Eq.trans eTt1 (Eq.trans (if_neg h1) (if_pos h2))))
  · skip
    refine wi_aload_n hC 2 d_Steps_extract_14 rfl rfl ?_
    refine wi_aload_n hC 3 d_Steps_extract_15 rfl rfl ?_
    refine k_Real_take hC ha2 ha3 wd_362 (by decide) (Nat.le_of_ble_eq_true rfl) d_Steps_extract_16 ?_
    refine wi_nmC (fun s11 e_s11 => ?_)
    refine wi_goto hC 164 d_Steps_extract_19 (by decide) ?_
    exact Jt1 s11 (by subst e_s11; exact (Eq.trans eTt1 (if_pos h1)))
theorem k_Steps_extract {p : Program} {l : Launch} {e : Env} {R : Room} {s : State} {m : MethodId} {args : Array Value} {below : List Frame} {meth : Method} {c : Code} {Q : State → Prop} {E : Ev} {nL pc index : Nat} {lv : List (Nat × Value)} {rest : List Value} {cc : ByteArray} {own : String} {σ τ : St} {q : Int64} {a1 : Nat} {a2 : Nat} {a3 : Nat} (hC : Cx p s m args c cc nL own E)  (ha1 : isReal a1) (ha2 : isReal a2) (ha3 : isReal a3) (hl : Cond.methodLink own index y_Steps_extract ∈ WL) (hR : 4 + 1 ≤ R.frames ∧ 8 + (5 + 11) + 106 ≤ R.locals) (hs8 : (rest.map fun v => v.category).sum ≤ 8) (d : decode cc pc = .ok (.invokevirtual index, 3)) (k : WS p l e R s m args below meth c Q E nL (pc + 3) lv rest ((f_Steps_extract σ a1 a2 a3), τ, q)) : WS p l e R s m args below meth c Q E nL pc lv (.ref a3 :: .ref a2 :: .ref a1 :: .ref 25 :: rest) (σ, τ, q) := by
  exact wi_callV hC (n := 3) (vs := [.ref a1, .ref a2, .ref a3]) (rest := rest) 25 7 (by decide) rfl rfl rfl (c_Steps_extract l E σ τ q a1 a2 a3 ha1 ha2 ha3) (by decide +kernel) wd_363 wd_340 wd_364 wd_365 ⟨rfl, rfl⟩ rfl rfl hl hR hs8 d k
set_option maxRecDepth 100000 in
set_option maxHeartbeats 400000 in
theorem c_Steps_takeRemainder (l : Launch) (E : Ev) (σ τ : St) (q : Int64) (a1 : Nat) (a2 : Nat) (a3 : Nat) (ha1 : isReal a1) (ha2 : isReal a2) (ha3 : isReal a3) : MF l y_Steps_takeRemainder prog_9_method_5_code 7 none { frames := 4, cells := 0, slots := 0, locals := 106 } E [.ref 25, .ref a1, .ref a2, .ref a3] (σ, τ, q) none ((f_Steps_takeRemainder σ a1 a2 a3), τ, q) := by
  refine MF_intro (lv0 := [(0, .ref 25), (1, .ref a1), (2, .ref a2), (3, .ref a3)]) (by decide) wd_371 (Nat.le_of_ble_eq_true rfl) rfl ?_
  intro p e s m args below meth c Q hC hr hk hQ
  replace hC : Cx p s m args c prog_9_method_5_code 7 "PartnerStack$Steps" E := hC
  refine wi_aload_n hC 0 d_Steps_takeRemainder_0 rfl rfl ?_
  refine wi_iconst hC 0 (by decide) d_Steps_takeRemainder_1 ?_
  refine wp_Steps_hasQuotient hC false rfl wd_366 d_Steps_takeRemainder_2 ?_
  refine wi_nmC (fun s1 e_s1 => ?_)
  refine wi_aload_n hC 1 d_Steps_takeRemainder_5 rfl rfl ?_
  refine k_Real_isInfinite hC ha1 wd_344 (by decide) (Nat.le_of_ble_eq_true rfl) d_Steps_takeRemainder_6 ?_
  obtain ⟨Tt1, eTt1⟩ : ∃ y : Bool, y = (
          if f_Real_isInfinite s1 a1 = true then
            true
          else
            if f_Real_isNothing s1 a2 = true then
              true
            else
              if f_Real_kind s1 a2 = 2 then
                true
              else
                false) := ⟨_, rfl⟩
  have Jt1 : ∀ (t1 : Bool), Tt1 = t1 → WS p l e { frames := 4, cells := 0, slots := 0, locals := 106 } s m args below meth c Q E 7 32 [(0, .ref 25), (1, .ref a1), (2, .ref a2), (3, .ref a3)] [.int (bI t1)] (s1, τ, q) := by
    intro t1  e_t1
    rw [eTt1] at e_t1
    refine wi_istore hC [(4, .int (bI t1)), (0, .ref 25), (1, .ref a1), (2, .ref a2), (3, .ref a3)] d_Steps_takeRemainder_32 (by decide) rfl ?_
    refine wi_aload_n hC 1 d_Steps_takeRemainder_34 rfl rfl ?_
    refine wg_Steps_control hC wd_342 d_Steps_takeRemainder_35 ?_
    refine wi_aload_n hC 2 d_Steps_takeRemainder_38 rfl rfl ?_
    refine wi_aload_n hC 3 d_Steps_takeRemainder_39 rfl rfl ?_
    refine wi_iload hC 0 d_Steps_takeRemainder_40 rfl ?_
    refine wi_aload_n hC 4 d_Steps_takeRemainder_42 rfl rfl ?_
    refine k_Ctl_settles hC t1 rfl ha1 ha2 ha3 wd_345 (by decide) (Nat.le_of_ble_eq_true rfl) d_Steps_takeRemainder_43 ?_
    obtain ⟨r1, e_r1⟩ : ∃ y : Bool × St, f_Ctl_settles s1 a1 a2 t1 a3 = y := ⟨_, rfl⟩
    rw [e_r1]
    refine wi_z_eq (b := r1.1) hC 50 d_Steps_takeRemainder_46 (by decide) (fun h4 => ?_) (fun h4 => ?_)
    · skip
      refine wi_aload_n hC 1 d_Steps_takeRemainder_50 rfl rfl ?_
      refine wi_iconst hC 1 (by decide) d_Steps_takeRemainder_51 ?_
      refine wp_Steps_hasQuotient hC true rfl wd_366 d_Steps_takeRemainder_52 ?_
      refine wi_nmC (fun s2 e_s2 => ?_)
      refine wi_aload_n hC 1 d_Steps_takeRemainder_55 rfl rfl ?_
      refine wi_iconst hC 0 (by decide) d_Steps_takeRemainder_56 ?_
      refine wp_Steps_isPartial hC false rfl wd_368 d_Steps_takeRemainder_57 ?_
      refine wi_nmC (fun s3 e_s3 => ?_)
      refine wi_aload_n hC 1 d_Steps_takeRemainder_60 rfl rfl ?_
      refine wi_iconst hC 0 (by decide) d_Steps_takeRemainder_61 ?_
      refine wp_Steps_quotient hC wd_369 d_Steps_takeRemainder_62 ?_
      refine wi_nmC (fun s4 e_s4 => ?_)
      refine wi_aload_n hC 1 d_Steps_takeRemainder_65 rfl rfl ?_
      refine wg_Steps_x hC wd_347 d_Steps_takeRemainder_66 ?_
      refine wi_aload_n hC 2 d_Steps_takeRemainder_69 rfl rfl ?_
      refine k_Size_load hC (by unfold isSize; decide) ha1 wd_348 (by decide) (Nat.le_of_ble_eq_true rfl) d_Steps_takeRemainder_70 ?_
      refine wi_nmC (fun s5 e_s5 => ?_)
      refine wi_aload_n hC 3 d_Steps_takeRemainder_73 rfl rfl ?_
      refine k_Real_isInfinite hC ha2 wd_344 (by decide) (Nat.le_of_ble_eq_true rfl) d_Steps_takeRemainder_74 ?_
      obtain ⟨Tt2, eTt2⟩ : ∃ y : St, y = (
              if f_Real_isInfinite s5 a2 = true then
                s5
              else
                let s6 : St := f_Size_load s5 7 a2
                let v1 : Int32 := (f_Size_exponent s6 6) - (f_Size_exponent s6 7)
                let t3 : Bool := 
                    if v1 < 64 then
                      false
                    else
                      true
                let s7 : St := sZ s6 19 25 t3
                if v1 < 0 then
                  s7
                else
                  let t4 : Int32 := 
                      if gZ s7 19 25 = true then
                        63
                      else
                        v1
                  let r2 : Int32 × St := f_Size_reduce s7 6 7 t4 (v1 - t4)
                  let s8 : St := sI r2.2 20 25 r2.1
                  s8) := ⟨_, rfl⟩
      have Jt2 : ∀ (t2 : St), Tt2 = t2 → WS p l e { frames := 4, cells := 0, slots := 0, locals := 106 } s m args below meth c Q E 7 164 [(4, .int (bI t1)), (0, .ref 25), (1, .ref a1), (2, .ref a2), (3, .ref a3)] [] (t2, τ, q) := by
        intro t2  e_t2
        rw [eTt2] at e_t2
        refine wi_aload_n hC 1 d_Steps_takeRemainder_164 rfl rfl ?_
        refine wg_Steps_maker hC wd_356 d_Steps_takeRemainder_165 ?_
        refine wi_aload_n hC 1 d_Steps_takeRemainder_168 rfl rfl ?_
        refine wg_Steps_x hC wd_347 d_Steps_takeRemainder_169 ?_
        refine wi_aload_n hC 2 d_Steps_takeRemainder_172 rfl rfl ?_
        refine wg_Real_minus hC ha1 wd_338 d_Steps_takeRemainder_173 ?_
        refine wi_bipush hC 64 (by decide) d_Steps_takeRemainder_176 ?_
        refine wi_aload_n hC 4 d_Steps_takeRemainder_178 rfl rfl ?_
        refine k_Maker_make hC (gZ t2 15 a1) rfl (by unfold isMaker; decide) (by unfold isSize; decide) ha3 wd_357 (by decide) (Nat.le_of_ble_eq_true rfl) d_Steps_takeRemainder_179 ?_
        refine wi_nmC (fun s9 e_s9 => ?_)
        have hf : f_Steps_takeRemainder σ a1 a2 a3 = s9 := by subst e_s9; subst e_t2; subst e_s5; subst e_s4; subst e_s3; subst e_s2; subst e_r1; subst e_t1; subst e_s1; exact (if_neg h4)
        exact wi_vret hC hr hk d_Steps_takeRemainder_182 rfl (congrArg (fun z => (z, τ, q)) hf).symm hQ
      refine wi_z_ne (b := (f_Real_isInfinite s5 a2)) hC 164 d_Steps_takeRemainder_77 (by decide) (fun h5 => ?_) (fun h5 => ?_)
      · skip
        exact Jt2 s5 (by exact (Eq.trans eTt2 (if_pos h5)))
      · skip
        refine wi_aload_n hC 1 d_Steps_takeRemainder_80 rfl rfl ?_
        refine wg_Steps_y hC wd_349 d_Steps_takeRemainder_81 ?_
        refine wi_aload_n hC 3 d_Steps_takeRemainder_84 rfl rfl ?_
        refine k_Size_load hC (by unfold isSize; decide) ha2 wd_348 (by decide) (Nat.le_of_ble_eq_true rfl) d_Steps_takeRemainder_85 ?_
        refine wi_nmC (fun s6 e_s6 => ?_)
        refine wi_aload_n hC 1 d_Steps_takeRemainder_88 rfl rfl ?_
        refine wg_Steps_x hC wd_347 d_Steps_takeRemainder_89 ?_
        refine k_Size_exponent hC (by unfold isSize; decide) wd_354 (by decide) (Nat.le_of_ble_eq_true rfl) d_Steps_takeRemainder_92 ?_
        refine wi_aload_n hC 1 d_Steps_takeRemainder_95 rfl rfl ?_
        refine wg_Steps_y hC wd_349 d_Steps_takeRemainder_96 ?_
        refine k_Size_exponent hC (by unfold isSize; decide) wd_354 (by decide) (Nat.le_of_ble_eq_true rfl) d_Steps_takeRemainder_99 ?_
        refine wi_isub hC d_Steps_takeRemainder_102 ?_
        refine wi_nmI (fun v1 e_v1 => ?_)
        refine wi_istore hC [(5, .int v1), (4, .int (bI t1)), (0, .ref 25), (1, .ref a1), (2, .ref a2), (3, .ref a3)] d_Steps_takeRemainder_103 (by decide) rfl ?_
        refine wi_aload_n hC 2 d_Steps_takeRemainder_105 rfl rfl ?_
        refine wi_iload hC 0 d_Steps_takeRemainder_106 rfl ?_
        refine wi_bipush hC 64 (by decide) d_Steps_takeRemainder_108 ?_
        obtain ⟨Tt3, eTt3⟩ : ∃ y : Bool, y = (
                if v1 < 64 then
                  false
                else
                  true) := ⟨_, rfl⟩
        have Jt3 : ∀ (t3 : Bool), Tt3 = t3 → WS p l e { frames := 4, cells := 0, slots := 0, locals := 106 } s m args below meth c Q E 7 118 [(5, .int v1), (4, .int (bI t1)), (0, .ref 25), (1, .ref a1), (2, .ref a2), (3, .ref a3)] [.int (bI t3), .ref 25] (s6, τ, q) := by
          intro t3  e_t3
          rw [eTt3] at e_t3
          refine wp_Steps_isPartial hC t3 rfl wd_368 d_Steps_takeRemainder_118 ?_
          refine wi_nmC (fun s7 e_s7 => ?_)
          refine wi_iload hC 0 d_Steps_takeRemainder_121 rfl ?_
          refine wi_if_lt hC 164 d_Steps_takeRemainder_123 (by decide) (fun h7 => ?_) (fun h7 => ?_)
          · skip
            refine wi_lv [1, 2, 3, 4, 5] [(4, .int (bI t1)), (0, .ref 25), (1, .ref a1), (2, .ref a2), (3, .ref a3)] rfl ?_
            exact Jt2 s7 (by subst e_s7; subst e_t3; subst e_v1; subst e_s6; exact (Eq.trans eTt2 (Eq.trans (if_neg h5) (if_pos h7))))
          · skip
            refine wi_aload_n hC 2 d_Steps_takeRemainder_126 rfl rfl ?_
            refine wg_Steps_isPartial hC wd_368 d_Steps_takeRemainder_127 ?_
            obtain ⟨Tt4, eTt4⟩ : ∃ y : Int32, y = (
                    if gZ s7 19 25 = true then
                      63
                    else
                      v1) := ⟨_, rfl⟩
            have Jt4 : ∀ (t4 : Int32), Tt4 = t4 → WS p l e { frames := 4, cells := 0, slots := 0, locals := 106 } s m args below meth c Q E 7 140 [(5, .int v1), (4, .int (bI t1)), (0, .ref 25), (1, .ref a1), (2, .ref a2), (3, .ref a3)] [.int t4] (s7, τ, q) := by
              intro t4  e_t4
              rw [eTt4] at e_t4
              refine wi_istore hC [(6, .int t4), (5, .int v1), (4, .int (bI t1)), (0, .ref 25), (1, .ref a1), (2, .ref a2), (3, .ref a3)] d_Steps_takeRemainder_140 (by decide) rfl ?_
              refine wi_aload_n hC 3 d_Steps_takeRemainder_142 rfl rfl ?_
              refine wi_aload_n hC 3 d_Steps_takeRemainder_143 rfl rfl ?_
              refine wg_Steps_x hC wd_347 d_Steps_takeRemainder_144 ?_
              refine wi_aload_n hC 3 d_Steps_takeRemainder_147 rfl rfl ?_
              refine wg_Steps_y hC wd_349 d_Steps_takeRemainder_148 ?_
              refine wi_iload hC 0 d_Steps_takeRemainder_151 rfl ?_
              refine wi_iload hC 1 d_Steps_takeRemainder_153 rfl ?_
              refine wi_iload hC 0 d_Steps_takeRemainder_155 rfl ?_
              refine wi_isub hC d_Steps_takeRemainder_157 ?_
              refine k_Size_reduce hC (by unfold isSize; decide) (by unfold isSize; decide) wd_370 (by decide) (Nat.le_of_ble_eq_true rfl) d_Steps_takeRemainder_158 ?_
              obtain ⟨r2, e_r2⟩ : ∃ y : Int32 × St, f_Size_reduce s7 6 7 t4 (v1 - t4) = y := ⟨_, rfl⟩
              rw [e_r2]
              refine wp_Steps_quotient hC wd_369 d_Steps_takeRemainder_161 ?_
              refine wi_nmC (fun s8 e_s8 => ?_)
              refine wi_lv [2, 3, 4, 5, 6] [(4, .int (bI t1)), (0, .ref 25), (1, .ref a1), (2, .ref a2), (3, .ref a3)] rfl ?_
              exact Jt2 s8 (by subst e_s8; subst e_r2; subst e_t4; subst e_s7; subst e_t3; subst e_v1; subst e_s6; exact (Eq.trans eTt2 (Eq.trans (if_neg h5) (if_neg h7))))
            refine wi_z_eq (b := (gZ s7 19 25)) hC 138 d_Steps_takeRemainder_130 (by decide) (fun h8 => ?_) (fun h8 => ?_)
            · skip
              refine wi_iload hC 0 d_Steps_takeRemainder_138 rfl ?_
              exact Jt4 v1 (by exact (Eq.trans eTt4 (if_neg h8)))
            · skip
              refine wi_bipush hC 63 (by decide) d_Steps_takeRemainder_133 ?_
              refine wi_goto hC 140 d_Steps_takeRemainder_135 (by decide) ?_
              exact Jt4 63 (by exact (Eq.trans eTt4 (if_pos h8)))
        refine wi_icmp_lt hC 117 d_Steps_takeRemainder_110 (by decide) (fun h6 => ?_) (fun h6 => ?_)
        · skip
          refine wi_iconst hC 0 (by decide) d_Steps_takeRemainder_117 ?_
          exact Jt3 false (by exact (Eq.trans eTt3 (if_pos h6)))
        · skip
          refine wi_iconst hC 1 (by decide) d_Steps_takeRemainder_113 ?_
          refine wi_goto hC 118 d_Steps_takeRemainder_114 (by decide) ?_
          exact Jt3 true (by exact (Eq.trans eTt3 (if_neg h6)))
    · skip
      have hf : f_Steps_takeRemainder σ a1 a2 a3 = r1.2 := by subst e_r1; subst e_t1; subst e_s1; exact (if_pos h4)
      exact wi_vret hC hr hk d_Steps_takeRemainder_49 rfl (congrArg (fun z => (z, τ, q)) hf).symm hQ
  refine wi_z_ne (b := (f_Real_isInfinite s1 a1)) hC 27 d_Steps_takeRemainder_9 (by decide) (fun h1 => ?_) (fun h1 => ?_)
  · skip
    refine wi_iconst hC 1 (by decide) d_Steps_takeRemainder_27 ?_
    refine wi_goto hC 32 d_Steps_takeRemainder_28 (by decide) ?_
    exact Jt1 true (by exact (Eq.trans eTt1 (if_pos h1)))
  · skip
    refine wi_aload_n hC 2 d_Steps_takeRemainder_12 rfl rfl ?_
    refine k_Real_isNothing hC ha2 wd_337 (by decide) (Nat.le_of_ble_eq_true rfl) d_Steps_takeRemainder_13 ?_
    refine wi_z_ne (b := (f_Real_isNothing s1 a2)) hC 27 d_Steps_takeRemainder_16 (by decide) (fun h2 => ?_) (fun h2 => ?_)
    · skip
      refine wi_iconst hC 1 (by decide) d_Steps_takeRemainder_27 ?_
      refine wi_goto hC 32 d_Steps_takeRemainder_28 (by decide) ?_
      exact Jt1 true (by exact (Eq.trans eTt1 (Eq.trans (if_neg h1) (if_pos h2))))
    · skip
      refine wi_aload_n hC 2 d_Steps_takeRemainder_19 rfl rfl ?_
      refine k_Real_kind hC ha2 wd_367 (by decide) (Nat.le_of_ble_eq_true rfl) d_Steps_takeRemainder_20 ?_
      refine wi_iconst hC 2 (by decide) d_Steps_takeRemainder_23 ?_
      refine wi_icmp_ne hC 31 d_Steps_takeRemainder_24 (by decide) (fun h3 => ?_) (fun h3 => ?_)
      · skip
        refine wi_iconst hC 0 (by decide) d_Steps_takeRemainder_31 ?_
        exact Jt1 false (by exact (Eq.trans eTt1 (Eq.trans (if_neg h1) (Eq.trans (if_neg h2) (if_neg h3)))))
      · skip
        refine wi_iconst hC 1 (by decide) d_Steps_takeRemainder_27 ?_
        refine wi_goto hC 32 d_Steps_takeRemainder_28 (by decide) ?_
        exact Jt1 true (by exact (Eq.trans eTt1 (Eq.trans (if_neg h1) (Eq.trans (if_neg h2) (if_pos h3)))))
theorem k_Steps_takeRemainder {p : Program} {l : Launch} {e : Env} {R : Room} {s : State} {m : MethodId} {args : Array Value} {below : List Frame} {meth : Method} {c : Code} {Q : State → Prop} {E : Ev} {nL pc index : Nat} {lv : List (Nat × Value)} {rest : List Value} {cc : ByteArray} {own : String} {σ τ : St} {q : Int64} {a1 : Nat} {a2 : Nat} {a3 : Nat} (hC : Cx p s m args c cc nL own E)  (ha1 : isReal a1) (ha2 : isReal a2) (ha3 : isReal a3) (hl : Cond.methodLink own index y_Steps_takeRemainder ∈ WL) (hR : 4 + 1 ≤ R.frames ∧ 8 + (7 + 11) + 106 ≤ R.locals) (hs8 : (rest.map fun v => v.category).sum ≤ 8) (d : decode cc pc = .ok (.invokevirtual index, 3)) (k : WS p l e R s m args below meth c Q E nL (pc + 3) lv rest ((f_Steps_takeRemainder σ a1 a2 a3), τ, q)) : WS p l e R s m args below meth c Q E nL pc lv (.ref a3 :: .ref a2 :: .ref a1 :: .ref 25 :: rest) (σ, τ, q) := by
  exact wi_callV hC (n := 3) (vs := [.ref a1, .ref a2, .ref a3]) (rest := rest) 25 7 (by decide) rfl rfl rfl (c_Steps_takeRemainder l E σ τ q a1 a2 a3 ha1 ha2 ha3) (by decide +kernel) wd_371 wd_340 wd_372 wd_373 ⟨rfl, rfl⟩ rfl rfl hl hR hs8 d k
set_option maxRecDepth 100000 in
set_option maxHeartbeats 400000 in
theorem c_Steps_makeWhole (l : Launch) (E : Ev) (σ τ : St) (q : Int64) (a1 : Nat) (a2 : Nat) (ha1 : isReal a1) (ha2 : isReal a2) : MF l y_Steps_makeWhole prog_9_method_2_code 3 none { frames := 4, cells := 0, slots := 0, locals := 106 } E [.ref 25, .ref a1, .ref a2] (σ, τ, q) none ((f_Steps_makeWhole σ a1 a2), τ, q) := by
  refine MF_intro (lv0 := [(0, .ref 25), (1, .ref a1), (2, .ref a2)]) (by decide) wd_378 (Nat.le_of_ble_eq_true rfl) rfl ?_
  intro p e s m args below meth c Q hC hr hk hQ
  replace hC : Cx p s m args c prog_9_method_2_code 3 "PartnerStack$Steps" E := hC
  refine wi_aload_n hC 0 d_Steps_makeWhole_0 rfl rfl ?_
  refine wg_Steps_control hC wd_342 d_Steps_makeWhole_1 ?_
  refine wi_aload_n hC 1 d_Steps_makeWhole_4 rfl rfl ?_
  refine wi_aload_n hC 1 d_Steps_makeWhole_5 rfl rfl ?_
  refine wi_iconst hC 0 (by decide) d_Steps_makeWhole_6 ?_
  refine wi_aload_n hC 2 d_Steps_makeWhole_7 rfl rfl ?_
  refine k_Ctl_settles hC false rfl ha1 ha1 ha2 wd_345 (by decide) (Nat.le_of_ble_eq_true rfl) d_Steps_makeWhole_8 ?_
  obtain ⟨r1, e_r1⟩ : ∃ y : Bool × St, f_Ctl_settles σ a1 a1 false a2 = y := ⟨_, rfl⟩
  rw [e_r1]
  refine wi_z_eq (b := r1.1) hC 15 d_Steps_makeWhole_11 (by decide) (fun h1 => ?_) (fun h1 => ?_)
  · skip
    refine wi_aload_n hC 1 d_Steps_makeWhole_15 rfl rfl ?_
    refine k_Real_isInfinite hC ha1 wd_344 (by decide) (Nat.le_of_ble_eq_true rfl) d_Steps_makeWhole_16 ?_
    refine wi_z_eq (b := (f_Real_isInfinite r1.2 a1)) hC 28 d_Steps_makeWhole_19 (by decide) (fun h2 => ?_) (fun h2 => ?_)
    · skip
      refine wi_aload_n hC 0 d_Steps_makeWhole_28 rfl rfl ?_
      refine wg_Steps_x hC wd_347 d_Steps_makeWhole_29 ?_
      refine wi_aload_n hC 1 d_Steps_makeWhole_32 rfl rfl ?_
      refine k_Size_load hC (by unfold isSize; decide) ha1 wd_348 (by decide) (Nat.le_of_ble_eq_true rfl) d_Steps_makeWhole_33 ?_
      refine wi_nmC (fun s1 e_s1 => ?_)
      refine wi_aload_n hC 0 d_Steps_makeWhole_36 rfl rfl ?_
      refine wg_Steps_x hC wd_347 d_Steps_makeWhole_37 ?_
      refine wg_Size_unit hC (by unfold isSize; decide) wd_355 d_Steps_makeWhole_40 ?_
      refine wi_bipush hC (-64) (by decide) d_Steps_makeWhole_43 ?_
      obtain ⟨Tt1, eTt1⟩ : ∃ y : St, y = (
              if (-64) ≤ (gI s1 11 6) then
                s1
              else
                let s2 : St := f_Size_round s1 6 (-(gI s1 11 6)) (f_Ctl_rounding s1) (gZ s1 15 a1)
                let t2 : Int32 := 
                    if gZ s2 13 6 = true then
                      32
                    else
                      0
                let s3 : St := f_Ctl_tell s2 t2
                let s4 : St := f_Size_loadTimes s3 6 (gJ s3 12 6) 0
                s4) := ⟨_, rfl⟩
      have Jt1 : ∀ (t1 : St), Tt1 = t1 → WS p l e { frames := 4, cells := 0, slots := 0, locals := 106 } s m args below meth c Q E 3 112 [(0, .ref 25), (1, .ref a1), (2, .ref a2)] [] (t1, τ, q) := by
        intro t1  e_t1
        rw [eTt1] at e_t1
        refine wi_aload_n hC 0 d_Steps_makeWhole_112 rfl rfl ?_
        refine wg_Steps_maker hC wd_356 d_Steps_makeWhole_113 ?_
        refine wi_aload_n hC 0 d_Steps_makeWhole_116 rfl rfl ?_
        refine wg_Steps_x hC wd_347 d_Steps_makeWhole_117 ?_
        refine wi_aload_n hC 1 d_Steps_makeWhole_120 rfl rfl ?_
        refine wg_Real_minus hC ha1 wd_338 d_Steps_makeWhole_121 ?_
        refine wi_bipush hC 64 (by decide) d_Steps_makeWhole_124 ?_
        refine wi_aload_n hC 2 d_Steps_makeWhole_126 rfl rfl ?_
        refine k_Maker_make hC (gZ t1 15 a1) rfl (by unfold isMaker; decide) (by unfold isSize; decide) ha2 wd_357 (by decide) (Nat.le_of_ble_eq_true rfl) d_Steps_makeWhole_127 ?_
        refine wi_nmC (fun s5 e_s5 => ?_)
        have hf : f_Steps_makeWhole σ a1 a2 = s5 := by subst e_s5; subst e_t1; subst e_s1; subst e_r1; exact (Eq.trans (if_neg h1) (if_neg h2))
        exact wi_vret hC hr hk d_Steps_makeWhole_130 rfl (congrArg (fun z => (z, τ, q)) hf).symm hQ
      refine wi_icmp_ge hC 112 d_Steps_makeWhole_45 (by decide) (fun h3 => ?_) (fun h3 => ?_)
      · skip
        exact Jt1 s1 (by exact (Eq.trans eTt1 (if_pos h3)))
      · skip
        refine wi_aload_n hC 0 d_Steps_makeWhole_48 rfl rfl ?_
        refine wg_Steps_x hC wd_347 d_Steps_makeWhole_49 ?_
        refine wi_aload_n hC 0 d_Steps_makeWhole_52 rfl rfl ?_
        refine wg_Steps_x hC wd_347 d_Steps_makeWhole_53 ?_
        refine wg_Size_unit hC (by unfold isSize; decide) wd_355 d_Steps_makeWhole_56 ?_
        refine wi_ineg hC d_Steps_makeWhole_59 ?_
        refine wi_aload_n hC 0 d_Steps_makeWhole_60 rfl rfl ?_
        refine wg_Steps_control hC wd_342 d_Steps_makeWhole_61 ?_
        refine k_Ctl_rounding hC  wd_374 (by decide) (Nat.le_of_ble_eq_true rfl) d_Steps_makeWhole_64 ?_
        refine wi_aload_n hC 1 d_Steps_makeWhole_67 rfl rfl ?_
        refine wg_Real_minus hC ha1 wd_338 d_Steps_makeWhole_68 ?_
        refine k_Size_round hC (gZ s1 15 a1) rfl (by unfold isSize; decide) wd_375 (by decide) (Nat.le_of_ble_eq_true rfl) d_Steps_makeWhole_71 ?_
        refine wi_nmC (fun s2 e_s2 => ?_)
        refine wi_aload_n hC 0 d_Steps_makeWhole_74 rfl rfl ?_
        refine wg_Steps_control hC wd_342 d_Steps_makeWhole_75 ?_
        refine wi_aload_n hC 0 d_Steps_makeWhole_78 rfl rfl ?_
        refine wg_Steps_x hC wd_347 d_Steps_makeWhole_79 ?_
        refine wg_Size_isCut hC (by unfold isSize; decide) wd_376 d_Steps_makeWhole_82 ?_
        obtain ⟨Tt2, eTt2⟩ : ∃ y : Int32, y = (
                if gZ s2 13 6 = true then
                  32
                else
                  0) := ⟨_, rfl⟩
        have Jt2 : ∀ (t2 : Int32), Tt2 = t2 → WS p l e { frames := 4, cells := 0, slots := 0, locals := 106 } s m args below meth c Q E 3 94 [(0, .ref 25), (1, .ref a1), (2, .ref a2)] [.int t2, .ref 3] (s2, τ, q) := by
          intro t2  e_t2
          rw [eTt2] at e_t2
          refine k_Ctl_tell hC  wd_359 (by decide) (Nat.le_of_ble_eq_true rfl) d_Steps_makeWhole_94 ?_
          refine wi_nmC (fun s3 e_s3 => ?_)
          refine wi_aload_n hC 0 d_Steps_makeWhole_97 rfl rfl ?_
          refine wg_Steps_x hC wd_347 d_Steps_makeWhole_98 ?_
          refine wi_aload_n hC 0 d_Steps_makeWhole_101 rfl rfl ?_
          refine wg_Steps_x hC wd_347 d_Steps_makeWhole_102 ?_
          refine wg_Size_kept hC (by unfold isSize; decide) wd_377 d_Steps_makeWhole_105 ?_
          refine wi_iconst hC 0 (by decide) d_Steps_makeWhole_108 ?_
          refine k_Size_loadTimes hC (by unfold isSize; decide) wd_358 (by decide) (Nat.le_of_ble_eq_true rfl) d_Steps_makeWhole_109 ?_
          refine wi_nmC (fun s4 e_s4 => ?_)
          exact Jt1 s4 (by subst e_s4; subst e_s3; subst e_t2; subst e_s2; exact (Eq.trans eTt1 (if_neg h3)))
        refine wi_z_eq (b := (gZ s2 13 6)) hC 93 d_Steps_makeWhole_85 (by decide) (fun h4 => ?_) (fun h4 => ?_)
        · skip
          refine wi_iconst hC 0 (by decide) d_Steps_makeWhole_93 ?_
          exact Jt2 0 (by exact (Eq.trans eTt2 (if_neg h4)))
        · skip
          refine wi_bipush hC 32 (by decide) d_Steps_makeWhole_88 ?_
          refine wi_goto hC 94 d_Steps_makeWhole_90 (by decide) ?_
          exact Jt2 32 (by exact (Eq.trans eTt2 (if_pos h4)))
    · skip
      refine wi_aload_n hC 2 d_Steps_makeWhole_22 rfl rfl ?_
      refine wi_aload_n hC 1 d_Steps_makeWhole_23 rfl rfl ?_
      refine k_Real_take hC ha2 ha1 wd_362 (by decide) (Nat.le_of_ble_eq_true rfl) d_Steps_makeWhole_24 ?_
      refine wi_nmC (fun s6 e_s6 => ?_)
      have hf : f_Steps_makeWhole σ a1 a2 = s6 := by subst e_s6; subst e_r1; exact (Eq.trans (if_neg h1) (if_pos h2))
      exact wi_vret hC hr hk d_Steps_makeWhole_27 rfl (congrArg (fun z => (z, τ, q)) hf).symm hQ
  · skip
    have hf : f_Steps_makeWhole σ a1 a2 = r1.2 := by subst e_r1; exact (if_pos h1)
    exact wi_vret hC hr hk d_Steps_makeWhole_14 rfl (congrArg (fun z => (z, τ, q)) hf).symm hQ
theorem k_Steps_makeWhole {p : Program} {l : Launch} {e : Env} {R : Room} {s : State} {m : MethodId} {args : Array Value} {below : List Frame} {meth : Method} {c : Code} {Q : State → Prop} {E : Ev} {nL pc index : Nat} {lv : List (Nat × Value)} {rest : List Value} {cc : ByteArray} {own : String} {σ τ : St} {q : Int64} {a1 : Nat} {a2 : Nat} (hC : Cx p s m args c cc nL own E)  (ha1 : isReal a1) (ha2 : isReal a2) (hl : Cond.methodLink own index y_Steps_makeWhole ∈ WL) (hR : 4 + 1 ≤ R.frames ∧ 8 + (3 + 11) + 106 ≤ R.locals) (hs8 : (rest.map fun v => v.category).sum ≤ 8) (d : decode cc pc = .ok (.invokevirtual index, 3)) (k : WS p l e R s m args below meth c Q E nL (pc + 3) lv rest ((f_Steps_makeWhole σ a1 a2), τ, q)) : WS p l e R s m args below meth c Q E nL pc lv (.ref a2 :: .ref a1 :: .ref 25 :: rest) (σ, τ, q) := by
  exact wi_callV hC (n := 2) (vs := [.ref a1, .ref a2]) (rest := rest) 25 7 (by decide) rfl rfl rfl (c_Steps_makeWhole l E σ τ q a1 a2 ha1 ha2) (by decide +kernel) wd_378 wd_340 wd_379 wd_380 ⟨rfl, rfl⟩ rfl rfl hl hR hs8 d k
set_option maxRecDepth 100000 in
set_option maxHeartbeats 400000 in
theorem c_Steps_scale (l : Launch) (E : Ev) (σ τ : St) (q : Int64) (a1 : Nat) (a2 : Nat) (a3 : Nat) (ha1 : isReal a1) (ha2 : isReal a2) (ha3 : isReal a3) : MF l y_Steps_scale prog_9_method_3_code 7 none { frames := 4, cells := 0, slots := 0, locals := 106 } E [.ref 25, .ref a1, .ref a2, .ref a3] (σ, τ, q) none ((f_Steps_scale σ a1 a2 a3), τ, q) := by
  refine MF_intro (lv0 := [(0, .ref 25), (1, .ref a1), (2, .ref a2), (3, .ref a3)]) (by decide) wd_382 (Nat.le_of_ble_eq_true rfl) rfl ?_
  intro p e s m args below meth c Q hC hr hk hQ
  replace hC : Cx p s m args c prog_9_method_3_code 7 "PartnerStack$Steps" E := hC
  refine wi_aload_n hC 0 d_Steps_scale_0 rfl rfl ?_
  refine wg_Steps_y hC wd_349 d_Steps_scale_1 ?_
  refine wi_aload_n hC 2 d_Steps_scale_4 rfl rfl ?_
  refine k_Size_load hC (by unfold isSize; decide) ha2 wd_348 (by decide) (Nat.le_of_ble_eq_true rfl) d_Steps_scale_5 ?_
  refine wi_nmC (fun s1 e_s1 => ?_)
  refine wi_aload_n hC 0 d_Steps_scale_8 rfl rfl ?_
  refine wg_Steps_y hC wd_349 d_Steps_scale_9 ?_
  refine k_Size_exponent hC (by unfold isSize; decide) wd_354 (by decide) (Nat.le_of_ble_eq_true rfl) d_Steps_scale_12 ?_
  refine wi_nmI (fun v1 e_v1 => ?_)
  refine wi_istore hC [(4, .int v1), (0, .ref 25), (1, .ref a1), (2, .ref a2), (3, .ref a3)] d_Steps_scale_15 (by decide) rfl ?_
  refine wi_aload_n hC 3 d_Steps_scale_17 rfl rfl ?_
  refine k_Real_isInfinite hC ha2 wd_344 (by decide) (Nat.le_of_ble_eq_true rfl) d_Steps_scale_18 ?_
  obtain ⟨Tt1, eTt1⟩ : ∃ y : Bool, y = (
          if f_Real_isInfinite s1 a2 = true then
            true
          else
            if v1 < 14 then
              false
            else
              true) := ⟨_, rfl⟩
  have Jt1 : ∀ (t1 : Bool), Tt1 = t1 → WS p l e { frames := 4, cells := 0, slots := 0, locals := 106 } s m args below meth c Q E 7 36 [(4, .int v1), (0, .ref 25), (1, .ref a1), (2, .ref a2), (3, .ref a3)] [.int (bI t1)] (s1, τ, q) := by
    intro t1  e_t1
    rw [eTt1] at e_t1
    refine wi_istore hC [(5, .int (bI t1)), (4, .int v1), (0, .ref 25), (1, .ref a1), (2, .ref a2), (3, .ref a3)] d_Steps_scale_36 (by decide) rfl ?_
    refine wi_aload_n hC 2 d_Steps_scale_38 rfl rfl ?_
    refine wg_Steps_control hC wd_342 d_Steps_scale_39 ?_
    refine wi_aload_n hC 3 d_Steps_scale_42 rfl rfl ?_
    refine wi_aload_n hC 4 d_Steps_scale_43 rfl rfl ?_
    refine wi_iload hC 0 d_Steps_scale_44 rfl ?_
    refine wi_aload_n hC 5 d_Steps_scale_46 rfl rfl ?_
    refine k_Ctl_settles hC t1 rfl ha1 ha2 ha3 wd_345 (by decide) (Nat.le_of_ble_eq_true rfl) d_Steps_scale_47 ?_
    obtain ⟨r1, e_r1⟩ : ∃ y : Bool × St, f_Ctl_settles s1 a1 a2 t1 a3 = y := ⟨_, rfl⟩
    rw [e_r1]
    refine wi_z_eq (b := r1.1) hC 54 d_Steps_scale_50 (by decide) (fun h3 => ?_) (fun h3 => ?_)
    · skip
      refine wi_aload_n hC 3 d_Steps_scale_54 rfl rfl ?_
      refine k_Real_isInfinite hC ha1 wd_344 (by decide) (Nat.le_of_ble_eq_true rfl) d_Steps_scale_55 ?_
      refine wi_z_eq (b := (f_Real_isInfinite r1.2 a1)) hC 67 d_Steps_scale_58 (by decide) (fun h4 => ?_) (fun h4 => ?_)
      · skip
        refine wi_iload hC 1 d_Steps_scale_67 rfl ?_
        obtain ⟨Tt2, eTt2⟩ : ∃ y : Int32, y = (
                if 0 ≤ v1 then
                  Int64.toInt32 (jlushr (gJ r1.2 8 7) (63 - v1))
                else
                  0) := ⟨_, rfl⟩
        have Jt2 : ∀ (t2 : Int32), Tt2 = t2 → WS p l e { frames := 4, cells := 0, slots := 0, locals := 106 } s m args below meth c Q E 7 90 [(5, .int (bI t1)), (4, .int v1), (0, .ref 25), (1, .ref a1), (2, .ref a2), (3, .ref a3)] [.int t2] (r1.2, τ, q) := by
          intro t2  e_t2
          rw [eTt2] at e_t2
          refine wi_istore hC [(6, .int t2), (5, .int (bI t1)), (4, .int v1), (0, .ref 25), (1, .ref a1), (2, .ref a2), (3, .ref a3)] d_Steps_scale_90 (by decide) rfl ?_
          refine wi_aload_n hC 3 d_Steps_scale_92 rfl rfl ?_
          refine wg_Steps_x hC wd_347 d_Steps_scale_93 ?_
          refine wi_aload_n hC 4 d_Steps_scale_96 rfl rfl ?_
          refine k_Size_load hC (by unfold isSize; decide) ha1 wd_348 (by decide) (Nat.le_of_ble_eq_true rfl) d_Steps_scale_97 ?_
          refine wi_nmC (fun s2 e_s2 => ?_)
          refine wi_aload_n hC 3 d_Steps_scale_100 rfl rfl ?_
          refine wg_Steps_x hC wd_347 d_Steps_scale_101 ?_
          refine wi_dup hC rfl d_Steps_scale_104 ?_
          refine wg_Size_unit hC (by unfold isSize; decide) wd_355 d_Steps_scale_105 ?_
          refine wi_aload_n hC 5 d_Steps_scale_108 rfl rfl ?_
          refine wg_Real_minus hC ha2 wd_338 d_Steps_scale_109 ?_
          obtain ⟨Tt3, eTt3⟩ : ∃ y : Int32, y = (
                  if gZ s2 15 a2 = true then
                    -t2
                  else
                    t2) := ⟨_, rfl⟩
          have Jt3 : ∀ (t3 : Int32), Tt3 = t3 → WS p l e { frames := 4, cells := 0, slots := 0, locals := 106 } s m args below meth c Q E 7 123 [(6, .int t2), (5, .int (bI t1)), (4, .int v1), (0, .ref 25), (1, .ref a1), (2, .ref a2), (3, .ref a3)] [.int t3, .int (gI s2 11 6), .ref 6] (s2, τ, q) := by
            intro t3  e_t3
            rw [eTt3] at e_t3
            refine wi_iadd hC d_Steps_scale_123 ?_
            refine wp_Size_unit hC (by unfold isSize; decide) wd_355 d_Steps_scale_124 ?_
            refine wi_nmC (fun s3 e_s3 => ?_)
            refine wi_aload_n hC 3 d_Steps_scale_127 rfl rfl ?_
            refine wg_Steps_maker hC wd_356 d_Steps_scale_128 ?_
            refine wi_aload_n hC 3 d_Steps_scale_131 rfl rfl ?_
            refine wg_Steps_x hC wd_347 d_Steps_scale_132 ?_
            refine wi_aload_n hC 4 d_Steps_scale_135 rfl rfl ?_
            refine wg_Real_minus hC ha1 wd_338 d_Steps_scale_136 ?_
            refine wi_bipush hC 64 (by decide) d_Steps_scale_139 ?_
            refine wi_aload_n hC 6 d_Steps_scale_141 rfl rfl ?_
            refine k_Maker_make hC (gZ s3 15 a1) rfl (by unfold isMaker; decide) (by unfold isSize; decide) ha3 wd_357 (by decide) (Nat.le_of_ble_eq_true rfl) d_Steps_scale_142 ?_
            refine wi_nmC (fun s4 e_s4 => ?_)
            have hf : f_Steps_scale σ a1 a2 a3 = s4 := by subst e_s4; subst e_s3; subst e_t3; subst e_s2; subst e_t2; subst e_r1; subst e_t1; subst e_v1; subst e_s1; exact (Eq.trans (if_neg h3) (if_neg h4))
            exact wi_vret hC hr hk d_Steps_scale_145 rfl (congrArg (fun z => (z, τ, q)) hf).symm hQ
          refine wi_z_eq (b := (gZ s2 15 a2)) hC 121 d_Steps_scale_112 (by decide) (fun h6 => ?_) (fun h6 => ?_)
          · skip
            refine wi_iload hC 0 d_Steps_scale_121 rfl ?_
            exact Jt3 t2 (by exact (Eq.trans eTt3 (if_neg h6)))
          · skip
            refine wi_iload hC 0 d_Steps_scale_115 rfl ?_
            refine wi_ineg hC d_Steps_scale_117 ?_
            refine wi_goto hC 123 d_Steps_scale_118 (by decide) ?_
            exact Jt3 (-t2) (by exact (Eq.trans eTt3 (if_pos h6)))
        refine wi_if_ge hC 76 d_Steps_scale_69 (by decide) (fun h5 => ?_) (fun h5 => ?_)
        · skip
          refine wi_aload_n hC 2 d_Steps_scale_76 rfl rfl ?_
          refine wg_Steps_y hC wd_349 d_Steps_scale_77 ?_
          refine wg_Size_high hC (by unfold isSize; decide) wd_381 d_Steps_scale_80 ?_
          refine wi_bipush hC 63 (by decide) d_Steps_scale_83 ?_
          refine wi_iload hC 1 d_Steps_scale_85 rfl ?_
          refine wi_isub hC d_Steps_scale_87 ?_
          refine wi_lushr hC d_Steps_scale_88 ?_
          refine wi_l2i hC d_Steps_scale_89 ?_
          exact Jt2 (Int64.toInt32 (jlushr (gJ r1.2 8 7) (63 - v1))) (by exact (Eq.trans eTt2 (if_pos h5)))
        · skip
          refine wi_iconst hC 0 (by decide) d_Steps_scale_72 ?_
          refine wi_goto hC 90 d_Steps_scale_73 (by decide) ?_
          exact Jt2 0 (by exact (Eq.trans eTt2 (if_neg h5)))
      · skip
        refine wi_aload_n hC 5 d_Steps_scale_61 rfl rfl ?_
        refine wi_aload_n hC 3 d_Steps_scale_62 rfl rfl ?_
        refine k_Real_take hC ha3 ha1 wd_362 (by decide) (Nat.le_of_ble_eq_true rfl) d_Steps_scale_63 ?_
        refine wi_nmC (fun s5 e_s5 => ?_)
        have hf : f_Steps_scale σ a1 a2 a3 = s5 := by subst e_s5; subst e_r1; subst e_t1; subst e_v1; subst e_s1; exact (Eq.trans (if_neg h3) (if_pos h4))
        exact wi_vret hC hr hk d_Steps_scale_66 rfl (congrArg (fun z => (z, τ, q)) hf).symm hQ
    · skip
      have hf : f_Steps_scale σ a1 a2 a3 = r1.2 := by subst e_r1; subst e_t1; subst e_v1; subst e_s1; exact (if_pos h3)
      exact wi_vret hC hr hk d_Steps_scale_53 rfl (congrArg (fun z => (z, τ, q)) hf).symm hQ
  refine wi_z_ne (b := (f_Real_isInfinite s1 a2)) hC 31 d_Steps_scale_21 (by decide) (fun h1 => ?_) (fun h1 => ?_)
  · skip
    refine wi_iconst hC 1 (by decide) d_Steps_scale_31 ?_
    refine wi_goto hC 36 d_Steps_scale_32 (by decide) ?_
    exact Jt1 true (by exact (Eq.trans eTt1 (if_pos h1)))
  · skip
    refine wi_iload hC 0 d_Steps_scale_24 rfl ?_
    refine wi_bipush hC 14 (by decide) d_Steps_scale_26 ?_
    refine wi_icmp_lt hC 35 d_Steps_scale_28 (by decide) (fun h2 => ?_) (fun h2 => ?_)
    · skip
      refine wi_iconst hC 0 (by decide) d_Steps_scale_35 ?_
      exact Jt1 false (by exact (Eq.trans eTt1 (Eq.trans (if_neg h1) (if_pos h2))))
    · skip
      refine wi_iconst hC 1 (by decide) d_Steps_scale_31 ?_
      refine wi_goto hC 36 d_Steps_scale_32 (by decide) ?_
      exact Jt1 true (by exact (Eq.trans eTt1 (Eq.trans (if_neg h1) (if_neg h2))))
theorem k_Steps_scale {p : Program} {l : Launch} {e : Env} {R : Room} {s : State} {m : MethodId} {args : Array Value} {below : List Frame} {meth : Method} {c : Code} {Q : State → Prop} {E : Ev} {nL pc index : Nat} {lv : List (Nat × Value)} {rest : List Value} {cc : ByteArray} {own : String} {σ τ : St} {q : Int64} {a1 : Nat} {a2 : Nat} {a3 : Nat} (hC : Cx p s m args c cc nL own E)  (ha1 : isReal a1) (ha2 : isReal a2) (ha3 : isReal a3) (hl : Cond.methodLink own index y_Steps_scale ∈ WL) (hR : 4 + 1 ≤ R.frames ∧ 8 + (7 + 11) + 106 ≤ R.locals) (hs8 : (rest.map fun v => v.category).sum ≤ 8) (d : decode cc pc = .ok (.invokevirtual index, 3)) (k : WS p l e R s m args below meth c Q E nL (pc + 3) lv rest ((f_Steps_scale σ a1 a2 a3), τ, q)) : WS p l e R s m args below meth c Q E nL pc lv (.ref a3 :: .ref a2 :: .ref a1 :: .ref 25 :: rest) (σ, τ, q) := by
  exact wi_callV hC (n := 3) (vs := [.ref a1, .ref a2, .ref a3]) (rest := rest) 25 7 (by decide) rfl rfl rfl (c_Steps_scale l E σ τ q a1 a2 a3 ha1 ha2 ha3) (by decide +kernel) wd_382 wd_340 wd_383 wd_384 ⟨rfl, rfl⟩ rfl rfl hl hR hs8 d k
