set_option maxRecDepth 100000 in
set_option maxHeartbeats 400000 in
theorem c_Oper_cannotBe (l : Launch) (E : Ev) (σ τ : St) (q : Int64) (a1 : Int32) (a2 : Nat) (a3 : Nat) (ha2 : isReal a2) (ha3 : isReal a3) : MF l y_Oper_cannotBe prog_5_method_3_code 5 (some .boolean) { frames := 1, cells := 0, slots := 0, locals := 20 } E [.ref 24, .int a1, .ref a2, .ref a3] (σ, τ, q) (some (.int (bI (f_Oper_cannotBe σ a1 a2 a3)))) (σ, τ, q) := by
  refine MF_intro (lv0 := [(0, .ref 24), (1, .int a1), (2, .ref a2), (3, .ref a3)]) (by decide) wd_299 (Nat.le_of_ble_eq_true rfl) rfl ?_
  intro p e s m args below meth c Q hC hr hk hQ
  replace hC : Cx p s m args c prog_5_method_3_code 5 "PartnerStack$Operation" E := hC
  refine wi_aload_n hC 2 d_Oper_cannotBe_0 rfl rfl ?_
  refine k_Real_isInfinite hC ha2 wd_293 (by decide) (Nat.le_of_ble_eq_true rfl) d_Oper_cannotBe_1 ?_
  obtain ⟨Tt1, eTt1⟩ : ∃ y : Bool, y = (
          if f_Real_isInfinite σ a2 = true then
            if f_Real_isInfinite σ a3 = true then
              true
            else
              false
          else
            false) := ⟨_, rfl⟩
  have Jt1 : ∀ (t1 : Bool), Tt1 = t1 → WS p l e { frames := 1, cells := 0, slots := 0, locals := 20 } s m args below meth c Q E 5 19 [(0, .ref 24), (1, .int a1), (2, .ref a2), (3, .ref a3)] [.int (bI t1)] (σ, τ, q) := by
    intro t1  e_t1
    rw [eTt1] at e_t1
    refine wi_istore hC [(4, .int (bI t1)), (0, .ref 24), (1, .int a1), (2, .ref a2), (3, .ref a3)] d_Oper_cannotBe_19 (by decide) rfl ?_
    refine wi_iload_n hC 2 d_Oper_cannotBe_21 rfl rfl ?_
    refine wi_by (a1 = 0) (fun h3 => ?_) (fun h3 => ?_)
    · skip
      refine wi_tsIn hC 0 52 d_Oper_cannotBe_22 (by rw [h3]; decide) (by decide) rfl (by decide) ?_
      refine wi_iload hC 0 d_Oper_cannotBe_52 rfl ?_
      obtain ⟨Tt2, eTt2⟩ : ∃ y : Bool, y = (
              if t1 = true then
                if f_Ctl_knowsOneInfinite σ = true then
                  true
                else
                  if gZ σ 15 a2 = gZ σ 15 a3 then
                    false
                  else
                    true
              else
                false) := ⟨_, rfl⟩
      have Jt2 : ∀ (t2 : Bool), Tt2 = t2 → WS p l e { frames := 1, cells := 0, slots := 0, locals := 20 } s m args below meth c Q E 5 83 [(4, .int (bI t1)), (0, .ref 24), (1, .int a1), (2, .ref a2), (3, .ref a3)] [.int (bI t2)] (σ, τ, q) := by
        intro t2  e_t2
        rw [eTt2] at e_t2
        have hf : f_Oper_cannotBe σ a1 a2 a3 = t2 := by subst e_t2; subst e_t1; exact (if_pos h3)
        exact wi_zret hC hr hk d_Oper_cannotBe_83 rfl (congrArg (fun z => some (Value.int (bI z))) hf) rfl hQ
      refine wi_z_eq (b := t1) hC 82 d_Oper_cannotBe_54 (by decide) (fun h4 => ?_) (fun h4 => ?_)
      · skip
        refine wi_iconst hC 0 (by decide) d_Oper_cannotBe_82 ?_
        exact Jt2 false (by exact (Eq.trans eTt2 (if_neg h4)))
      · skip
        refine wi_aload_n hC 1 d_Oper_cannotBe_57 rfl rfl ?_
        refine wg_Oper_control hC wd_294 d_Oper_cannotBe_58 ?_
        refine k_Ctl_knowsOneInfinite hC  wd_295 (by decide) (Nat.le_of_ble_eq_true rfl) d_Oper_cannotBe_61 ?_
        refine wi_z_ne (b := (f_Ctl_knowsOneInfinite σ)) hC 78 d_Oper_cannotBe_64 (by decide) (fun h5 => ?_) (fun h5 => ?_)
        · skip
          refine wi_iconst hC 1 (by decide) d_Oper_cannotBe_78 ?_
          refine wi_goto hC 83 d_Oper_cannotBe_79 (by decide) ?_
          exact Jt2 true (by exact (Eq.trans eTt2 (Eq.trans (if_pos h4) (if_pos h5))))
        · skip
          refine wi_aload_n hC 3 d_Oper_cannotBe_67 rfl rfl ?_
          refine wg_Real_minus hC ha2 wd_296 d_Oper_cannotBe_68 ?_
          refine wi_aload_n hC 4 d_Oper_cannotBe_71 rfl rfl ?_
          refine wg_Real_minus hC ha3 wd_296 d_Oper_cannotBe_72 ?_
          refine wi_zc_eq (a := (gZ σ 15 a2)) (b := (gZ σ 15 a3)) hC 82 d_Oper_cannotBe_75 (by decide) (fun h6 => ?_) (fun h6 => ?_)
          · skip
            refine wi_iconst hC 0 (by decide) d_Oper_cannotBe_82 ?_
            exact Jt2 false (by exact (Eq.trans eTt2 (Eq.trans (if_pos h4) (Eq.trans (if_neg h5) (if_pos h6)))))
          · skip
            refine wi_iconst hC 1 (by decide) d_Oper_cannotBe_78 ?_
            refine wi_goto hC 83 d_Oper_cannotBe_79 (by decide) ?_
            exact Jt2 true (by exact (Eq.trans eTt2 (Eq.trans (if_pos h4) (Eq.trans (if_neg h5) (if_neg h6)))))
    · skip
      refine wi_by (a1 = 1) (fun h7 => ?_) (fun h7 => ?_)
      · skip
        refine wi_tsIn hC 1 84 d_Oper_cannotBe_22 (by rw [h7]; decide) (by decide) rfl (by decide) ?_
        refine wi_iload hC 0 d_Oper_cannotBe_84 rfl ?_
        obtain ⟨Tt3, eTt3⟩ : ∃ y : Bool, y = (
                if t1 = true then
                  if f_Ctl_knowsOneInfinite σ = true then
                    true
                  else
                    if gZ σ 15 a2 = gZ σ 15 a3 then
                      true
                    else
                      false
                else
                  false) := ⟨_, rfl⟩
        have Jt3 : ∀ (t3 : Bool), Tt3 = t3 → WS p l e { frames := 1, cells := 0, slots := 0, locals := 20 } s m args below meth c Q E 5 115 [(4, .int (bI t1)), (0, .ref 24), (1, .int a1), (2, .ref a2), (3, .ref a3)] [.int (bI t3)] (σ, τ, q) := by
          intro t3  e_t3
          rw [eTt3] at e_t3
          have hf : f_Oper_cannotBe σ a1 a2 a3 = t3 := by subst e_t3; subst e_t1; exact (Eq.trans (if_neg h3) (if_pos h7))
          exact wi_zret hC hr hk d_Oper_cannotBe_115 rfl (congrArg (fun z => some (Value.int (bI z))) hf) rfl hQ
        refine wi_z_eq (b := t1) hC 114 d_Oper_cannotBe_86 (by decide) (fun h8 => ?_) (fun h8 => ?_)
        · skip
          refine wi_iconst hC 0 (by decide) d_Oper_cannotBe_114 ?_
          exact Jt3 false (by exact (Eq.trans eTt3 (if_neg h8)))
        · skip
          refine wi_aload_n hC 1 d_Oper_cannotBe_89 rfl rfl ?_
          refine wg_Oper_control hC wd_294 d_Oper_cannotBe_90 ?_
          refine k_Ctl_knowsOneInfinite hC  wd_295 (by decide) (Nat.le_of_ble_eq_true rfl) d_Oper_cannotBe_93 ?_
          refine wi_z_ne (b := (f_Ctl_knowsOneInfinite σ)) hC 110 d_Oper_cannotBe_96 (by decide) (fun h9 => ?_) (fun h9 => ?_)
          · skip
            refine wi_iconst hC 1 (by decide) d_Oper_cannotBe_110 ?_
            refine wi_goto hC 115 d_Oper_cannotBe_111 (by decide) ?_
            exact Jt3 true (by exact (Eq.trans eTt3 (Eq.trans (if_pos h8) (if_pos h9))))
          · skip
            refine wi_aload_n hC 3 d_Oper_cannotBe_99 rfl rfl ?_
            refine wg_Real_minus hC ha2 wd_296 d_Oper_cannotBe_100 ?_
            refine wi_aload_n hC 4 d_Oper_cannotBe_103 rfl rfl ?_
            refine wg_Real_minus hC ha3 wd_296 d_Oper_cannotBe_104 ?_
            refine wi_zc_ne (a := (gZ σ 15 a2)) (b := (gZ σ 15 a3)) hC 114 d_Oper_cannotBe_107 (by decide) (fun h10 => ?_) (fun h10 => ?_)
            · skip
              refine wi_iconst hC 0 (by decide) d_Oper_cannotBe_114 ?_
              exact Jt3 false (by exact (Eq.trans eTt3 (Eq.trans (if_pos h8) (Eq.trans (if_neg h9) (if_neg h10)))))
            · skip
              refine wi_iconst hC 1 (by decide) d_Oper_cannotBe_110 ?_
              refine wi_goto hC 115 d_Oper_cannotBe_111 (by decide) ?_
              exact Jt3 true (by exact (Eq.trans eTt3 (Eq.trans (if_pos h8) (Eq.trans (if_neg h9) (if_pos h10)))))
      · skip
        refine wi_by (a1 = 2) (fun h11 => ?_) (fun h11 => ?_)
        · skip
          refine wi_tsIn hC 2 116 d_Oper_cannotBe_22 (by rw [h11]; decide) (by decide) rfl (by decide) ?_
          refine wi_aload_n hC 3 d_Oper_cannotBe_116 rfl rfl ?_
          refine k_Real_isInfinite hC ha2 wd_293 (by decide) (Nat.le_of_ble_eq_true rfl) d_Oper_cannotBe_117 ?_
          obtain ⟨Tt4, eTt4⟩ : ∃ y : Bool, y = (
                  if f_Real_isInfinite σ a2 = true then
                    if f_Real_isNothing σ a3 = true then
                      true
                    else
                      f_Oper_cannotBe_b130 σ a2 a3
                  else
                    f_Oper_cannotBe_b130 σ a2 a3) := ⟨_, rfl⟩
          have Jt4 : ∀ (t4 : Bool), Tt4 = t4 → WS p l e { frames := 1, cells := 0, slots := 0, locals := 20 } s m args below meth c Q E 5 149 [(4, .int (bI t1)), (0, .ref 24), (1, .int a1), (2, .ref a2), (3, .ref a3)] [.int (bI t4)] (σ, τ, q) := by
            intro t4  e_t4
            rw [eTt4] at e_t4
            have hf : f_Oper_cannotBe σ a1 a2 a3 = t4 := by subst e_t4; subst e_t1; exact (Eq.trans (if_neg h3) (Eq.trans (if_neg h7) (if_pos h11)))
            exact wi_zret hC hr hk d_Oper_cannotBe_149 rfl (congrArg (fun z => some (Value.int (bI z))) hf) rfl hQ
          have B1 : Tt4 = f_Oper_cannotBe_b130 σ a2 a3 → WS p l e { frames := 1, cells := 0, slots := 0, locals := 20 } s m args below meth c Q E 5 130 [(4, .int (bI t1)), (0, .ref 24), (1, .int a1), (2, .ref a2), (3, .ref a3)] [] (σ, τ, q) := by
            intro hB1
            refine wi_aload_n hC 3 d_Oper_cannotBe_130 rfl rfl ?_
            refine k_Real_isNothing hC ha2 wd_297 (by decide) (Nat.le_of_ble_eq_true rfl) d_Oper_cannotBe_131 ?_
            refine wi_z_eq (b := (f_Real_isNothing σ a2)) hC 148 d_Oper_cannotBe_134 (by decide) (fun h14 => ?_) (fun h14 => ?_)
            · skip
              refine wi_iconst hC 0 (by decide) d_Oper_cannotBe_148 ?_
              exact Jt4 false (by exact (Eq.trans hB1 (if_neg h14)))
            · skip
              refine wi_aload_n hC 4 d_Oper_cannotBe_137 rfl rfl ?_
              refine k_Real_isInfinite hC ha3 wd_293 (by decide) (Nat.le_of_ble_eq_true rfl) d_Oper_cannotBe_138 ?_
              refine wi_z_eq (b := (f_Real_isInfinite σ a3)) hC 148 d_Oper_cannotBe_141 (by decide) (fun h15 => ?_) (fun h15 => ?_)
              · skip
                refine wi_iconst hC 0 (by decide) d_Oper_cannotBe_148 ?_
                exact Jt4 false (by exact (Eq.trans hB1 (Eq.trans (if_pos h14) (if_neg h15))))
              · skip
                refine wi_iconst hC 1 (by decide) d_Oper_cannotBe_144 ?_
                refine wi_goto hC 149 d_Oper_cannotBe_145 (by decide) ?_
                exact Jt4 true (by exact (Eq.trans hB1 (Eq.trans (if_pos h14) (if_pos h15))))
          refine wi_z_eq (b := (f_Real_isInfinite σ a2)) hC 130 d_Oper_cannotBe_120 (by decide) (fun h12 => ?_) (fun h12 => ?_)
          · skip
            exact B1   (by exact (Eq.trans eTt4 (if_neg h12)))
          · skip
            refine wi_aload_n hC 4 d_Oper_cannotBe_123 rfl rfl ?_
            refine k_Real_isNothing hC ha3 wd_297 (by decide) (Nat.le_of_ble_eq_true rfl) d_Oper_cannotBe_124 ?_
            refine wi_z_ne (b := (f_Real_isNothing σ a3)) hC 144 d_Oper_cannotBe_127 (by decide) (fun h13 => ?_) (fun h13 => ?_)
            · skip
              refine wi_iconst hC 1 (by decide) d_Oper_cannotBe_144 ?_
              refine wi_goto hC 149 d_Oper_cannotBe_145 (by decide) ?_
              exact Jt4 true (by exact (Eq.trans eTt4 (Eq.trans (if_pos h12) (if_pos h13))))
            · skip
              exact B1   (by exact (Eq.trans eTt4 (Eq.trans (if_pos h12) (if_neg h13))))
        · skip
          refine wi_by (a1 = 3) (fun h16 => ?_) (fun h16 => ?_)
          · skip
            refine wi_tsIn hC 3 150 d_Oper_cannotBe_22 (by rw [h16]; decide) (by decide) rfl (by decide) ?_
            refine wi_iload hC 0 d_Oper_cannotBe_150 rfl ?_
            obtain ⟨Tt5, eTt5⟩ : ∃ y : Bool, y = (
                    if t1 = true then
                      true
                    else
                      if f_Real_isNothing σ a2 = true then
                        if f_Real_isNothing σ a3 = true then
                          true
                        else
                          f_Oper_cannotBe_b169 σ a3
                      else
                        f_Oper_cannotBe_b169 σ a3) := ⟨_, rfl⟩
            have Jt5 : ∀ (t5 : Bool), Tt5 = t5 → WS p l e { frames := 1, cells := 0, slots := 0, locals := 20 } s m args below meth c Q E 5 181 [(4, .int (bI t1)), (0, .ref 24), (1, .int a1), (2, .ref a2), (3, .ref a3)] [.int (bI t5)] (σ, τ, q) := by
              intro t5  e_t5
              rw [eTt5] at e_t5
              have hf : f_Oper_cannotBe σ a1 a2 a3 = t5 := by subst e_t5; subst e_t1; exact (Eq.trans (if_neg h3) (Eq.trans (if_neg h7) (Eq.trans (if_neg h11) (if_pos h16))))
              exact wi_zret hC hr hk d_Oper_cannotBe_181 rfl (congrArg (fun z => some (Value.int (bI z))) hf) rfl hQ
            refine wi_z_ne (b := t1) hC 176 d_Oper_cannotBe_152 (by decide) (fun h17 => ?_) (fun h17 => ?_)
            · skip
              refine wi_iconst hC 1 (by decide) d_Oper_cannotBe_176 ?_
              refine wi_goto hC 181 d_Oper_cannotBe_177 (by decide) ?_
              exact Jt5 true (by exact (Eq.trans eTt5 (if_pos h17)))
            · skip
              refine wi_aload_n hC 3 d_Oper_cannotBe_155 rfl rfl ?_
              refine k_Real_isNothing hC ha2 wd_297 (by decide) (Nat.le_of_ble_eq_true rfl) d_Oper_cannotBe_156 ?_
              have B2 : Tt5 = f_Oper_cannotBe_b169 σ a3 → WS p l e { frames := 1, cells := 0, slots := 0, locals := 20 } s m args below meth c Q E 5 169 [(4, .int (bI t1)), (0, .ref 24), (1, .int a1), (2, .ref a2), (3, .ref a3)] [] (σ, τ, q) := by
                intro hB2
                refine wi_aload_n hC 4 d_Oper_cannotBe_169 rfl rfl ?_
                refine k_Real_isUnnormalSomething hC ha3 wd_298 (by decide) (Nat.le_of_ble_eq_true rfl) d_Oper_cannotBe_170 ?_
                refine wi_z_eq (b := (f_Real_isUnnormalSomething σ a3)) hC 180 d_Oper_cannotBe_173 (by decide) (fun h20 => ?_) (fun h20 => ?_)
                · skip
                  refine wi_iconst hC 0 (by decide) d_Oper_cannotBe_180 ?_
                  exact Jt5 false (by exact (Eq.trans hB2 (if_neg h20)))
                · skip
                  refine wi_iconst hC 1 (by decide) d_Oper_cannotBe_176 ?_
                  refine wi_goto hC 181 d_Oper_cannotBe_177 (by decide) ?_
                  exact Jt5 true (by exact (Eq.trans hB2 (if_pos h20)))
              refine wi_z_eq (b := (f_Real_isNothing σ a2)) hC 169 d_Oper_cannotBe_159 (by decide) (fun h18 => ?_) (fun h18 => ?_)
              · skip
                exact B2   (by exact (Eq.trans eTt5 (Eq.trans (if_neg h17) (if_neg h18))))
              · skip
                refine wi_aload_n hC 4 d_Oper_cannotBe_162 rfl rfl ?_
                refine k_Real_isNothing hC ha3 wd_297 (by decide) (Nat.le_of_ble_eq_true rfl) d_Oper_cannotBe_163 ?_
                refine wi_z_ne (b := (f_Real_isNothing σ a3)) hC 176 d_Oper_cannotBe_166 (by decide) (fun h19 => ?_) (fun h19 => ?_)
                · skip
                  refine wi_iconst hC 1 (by decide) d_Oper_cannotBe_176 ?_
                  refine wi_goto hC 181 d_Oper_cannotBe_177 (by decide) ?_
                  exact Jt5 true (by exact (Eq.trans eTt5 (Eq.trans (if_neg h17) (Eq.trans (if_pos h18) (if_pos h19)))))
                · skip
                  exact B2   (by exact (Eq.trans eTt5 (Eq.trans (if_neg h17) (Eq.trans (if_pos h18) (if_neg h19)))))
          · skip
            refine wi_tsOut hC 182 d_Oper_cannotBe_22 (by have q0 := lv_neT h3 (a := 0) (by decide); have q1 := lv_neT h7 (a := 1) (by decide); have q2 := lv_neT h11 (a := 2) (by decide); have q3 := lv_neT h16 (a := 3) (by decide); omega) (by decide) ?_
            refine wi_aload_n hC 3 d_Oper_cannotBe_182 rfl rfl ?_
            refine wg_Real_minus hC ha2 wd_296 d_Oper_cannotBe_183 ?_
            obtain ⟨Tt6, eTt6⟩ : ∃ y : Bool, y = (
                    if gZ σ 15 a2 = true then
                      if f_Real_isNothing σ a2 = true then
                        f_Oper_cannotBe_b196 σ a2
                      else
                        true
                    else
                      f_Oper_cannotBe_b196 σ a2) := ⟨_, rfl⟩
            have Jt6 : ∀ (t6 : Bool), Tt6 = t6 → WS p l e { frames := 1, cells := 0, slots := 0, locals := 20 } s m args below meth c Q E 5 225 [(4, .int (bI t1)), (0, .ref 24), (1, .int a1), (2, .ref a2), (3, .ref a3)] [.int (bI t6)] (σ, τ, q) := by
              intro t6  e_t6
              rw [eTt6] at e_t6
              have hf : f_Oper_cannotBe σ a1 a2 a3 = t6 := by subst e_t6; subst e_t1; exact (Eq.trans (if_neg h3) (Eq.trans (if_neg h7) (Eq.trans (if_neg h11) (if_neg h16))))
              exact wi_zret hC hr hk d_Oper_cannotBe_225 rfl (congrArg (fun z => some (Value.int (bI z))) hf) rfl hQ
            have B3 : Tt6 = f_Oper_cannotBe_b196 σ a2 → WS p l e { frames := 1, cells := 0, slots := 0, locals := 20 } s m args below meth c Q E 5 196 [(4, .int (bI t1)), (0, .ref 24), (1, .int a1), (2, .ref a2), (3, .ref a3)] [] (σ, τ, q) := by
              intro hB3
              refine wi_aload_n hC 3 d_Oper_cannotBe_196 rfl rfl ?_
              refine k_Real_isUnnormalSomething hC ha2 wd_298 (by decide) (Nat.le_of_ble_eq_true rfl) d_Oper_cannotBe_197 ?_
              refine wi_z_ne (b := (f_Real_isUnnormalSomething σ a2)) hC 220 d_Oper_cannotBe_200 (by decide) (fun h23 => ?_) (fun h23 => ?_)
              · skip
                refine wi_iconst hC 1 (by decide) d_Oper_cannotBe_220 ?_
                refine wi_goto hC 225 d_Oper_cannotBe_221 (by decide) ?_
                exact Jt6 true (by exact (Eq.trans hB3 (if_pos h23)))
              · skip
                refine wi_aload_n hC 3 d_Oper_cannotBe_203 rfl rfl ?_
                refine k_Real_isInfinite hC ha2 wd_293 (by decide) (Nat.le_of_ble_eq_true rfl) d_Oper_cannotBe_204 ?_
                refine wi_z_eq (b := (f_Real_isInfinite σ a2)) hC 224 d_Oper_cannotBe_207 (by decide) (fun h24 => ?_) (fun h24 => ?_)
                · skip
                  refine wi_iconst hC 0 (by decide) d_Oper_cannotBe_224 ?_
                  exact Jt6 false (by exact (Eq.trans hB3 (Eq.trans (if_neg h23) (if_neg h24))))
                · skip
                  refine wi_aload_n hC 1 d_Oper_cannotBe_210 rfl rfl ?_
                  refine wg_Oper_control hC wd_294 d_Oper_cannotBe_211 ?_
                  refine k_Ctl_knowsOneInfinite hC  wd_295 (by decide) (Nat.le_of_ble_eq_true rfl) d_Oper_cannotBe_214 ?_
                  refine wi_z_eq (b := (f_Ctl_knowsOneInfinite σ)) hC 224 d_Oper_cannotBe_217 (by decide) (fun h25 => ?_) (fun h25 => ?_)
                  · skip
                    refine wi_iconst hC 0 (by decide) d_Oper_cannotBe_224 ?_
                    exact Jt6 false (by exact (Eq.trans hB3 (Eq.trans (if_neg h23) (Eq.trans (if_pos h24) (if_neg h25)))))
                  · skip
                    refine wi_iconst hC 1 (by decide) d_Oper_cannotBe_220 ?_
                    refine wi_goto hC 225 d_Oper_cannotBe_221 (by decide) ?_
                    exact Jt6 true (by exact (Eq.trans hB3 (Eq.trans (if_neg h23) (Eq.trans (if_pos h24) (if_pos h25)))))
            refine wi_z_eq (b := (gZ σ 15 a2)) hC 196 d_Oper_cannotBe_186 (by decide) (fun h21 => ?_) (fun h21 => ?_)
            · skip
              exact B3   (by exact (Eq.trans eTt6 (if_neg h21)))
            · skip
              refine wi_aload_n hC 3 d_Oper_cannotBe_189 rfl rfl ?_
              refine k_Real_isNothing hC ha2 wd_297 (by decide) (Nat.le_of_ble_eq_true rfl) d_Oper_cannotBe_190 ?_
              refine wi_z_eq (b := (f_Real_isNothing σ a2)) hC 220 d_Oper_cannotBe_193 (by decide) (fun h22 => ?_) (fun h22 => ?_)
              · skip
                refine wi_iconst hC 1 (by decide) d_Oper_cannotBe_220 ?_
                refine wi_goto hC 225 d_Oper_cannotBe_221 (by decide) ?_
                exact Jt6 true (by exact (Eq.trans eTt6 (Eq.trans (if_pos h21) (if_neg h22))))
              · skip
                exact B3   (by exact (Eq.trans eTt6 (Eq.trans (if_pos h21) (if_pos h22))))
  refine wi_z_eq (b := (f_Real_isInfinite σ a2)) hC 18 d_Oper_cannotBe_4 (by decide) (fun h1 => ?_) (fun h1 => ?_)
  · skip
    refine wi_iconst hC 0 (by decide) d_Oper_cannotBe_18 ?_
    exact Jt1 false (by exact (Eq.trans eTt1 (if_neg h1)))
  · skip
    refine wi_aload_n hC 3 d_Oper_cannotBe_7 rfl rfl ?_
    refine k_Real_isInfinite hC ha3 wd_293 (by decide) (Nat.le_of_ble_eq_true rfl) d_Oper_cannotBe_8 ?_
    refine wi_z_eq (b := (f_Real_isInfinite σ a3)) hC 18 d_Oper_cannotBe_11 (by decide) (fun h2 => ?_) (fun h2 => ?_)
    · skip
      refine wi_iconst hC 0 (by decide) d_Oper_cannotBe_18 ?_
      exact Jt1 false (by exact (Eq.trans eTt1 (Eq.trans (if_pos h1) (if_neg h2))))
    · skip
      refine wi_iconst hC 1 (by decide) d_Oper_cannotBe_14 ?_
      refine wi_goto hC 19 d_Oper_cannotBe_15 (by decide) ?_
      exact Jt1 true (by exact (Eq.trans eTt1 (Eq.trans (if_pos h1) (if_pos h2))))
theorem k_Oper_cannotBe {p : Program} {l : Launch} {e : Env} {R : Room} {s : State} {m : MethodId} {args : Array Value} {below : List Frame} {meth : Method} {c : Code} {Q : State → Prop} {E : Ev} {nL pc index : Nat} {lv : List (Nat × Value)} {rest : List Value} {cc : ByteArray} {own : String} {σ τ : St} {q : Int64} {a1 : Int32} {a2 : Nat} {a3 : Nat} (hC : Cx p s m args c cc nL own E)  (ha2 : isReal a2) (ha3 : isReal a3) (hl : Cond.methodLink own index y_Oper_cannotBe ∈ WL) (hR : 1 + 1 ≤ R.frames ∧ 8 + (5 + 11) + 20 ≤ R.locals) (hs8 : (rest.map fun v => v.category).sum ≤ 8) (d : decode cc pc = .ok (.invokevirtual index, 3)) (k : WS p l e R s m args below meth c Q E nL (pc + 3) lv ((.int (bI (f_Oper_cannotBe σ a1 a2 a3))) :: rest) (σ, τ, q)) : WS p l e R s m args below meth c Q E nL pc lv (.ref a3 :: .ref a2 :: .int a1 :: .ref 24 :: rest) (σ, τ, q) := by
  exact wi_callV hC (n := 3) (vs := [.int a1, .ref a2, .ref a3]) (rest := rest) 24 6 (by decide) rfl rfl rfl (c_Oper_cannotBe l E σ τ q a1 a2 a3 ha2 ha3) (by decide +kernel) wd_299 wd_300 wd_301 wd_302 ⟨rfl, rfl⟩ rfl rfl hl hR hs8 d k
set_option maxRecDepth 100000 in
set_option maxHeartbeats 400000 in
theorem c_Oper_answerInfinite (l : Launch) (E : Ev) (σ τ : St) (q : Int64) (a1 : Int32) (a2 : Nat) (a3 : Nat) (a4 : Nat) (ha2 : isReal a2) (ha3 : isReal a3) (ha4 : isReal a4) : MF l y_Oper_answerInfinite prog_5_method_4_code 5 none { frames := 2, cells := 0, slots := 0, locals := 45 } E [.ref 24, .int a1, .ref a2, .ref a3, .ref a4] (σ, τ, q) none ((f_Oper_answerInfinite σ a1 a2 a3 a4), τ, q) := by
  refine MF_intro (lv0 := [(0, .ref 24), (1, .int a1), (2, .ref a2), (3, .ref a3), (4, .ref a4)]) (by decide) wd_305 (Nat.le_of_ble_eq_true rfl) rfl ?_
  intro p e s m args below meth c Q hC hr hk hQ
  replace hC : Cx p s m args c prog_5_method_4_code 5 "PartnerStack$Operation" E := hC
  refine wi_iload_n hC 1 d_Oper_answerInfinite_0 rfl rfl ?_
  obtain ⟨Tt1, eTt1⟩ : ∃ y : St, y = (
          if a1 = 0 then
            f_Oper_answerInfinite_b9 σ a1 a2 a3 a4
          else
            if a1 = 1 then
              f_Oper_answerInfinite_b9 σ a1 a2 a3 a4
            else
              if a1 = 3 then
                if f_Real_isInfinite σ a2 = true then
                  f_Oper_answerInfinite_b89 σ a2 a3 a4
                else
                  let t2 : Bool := 
                      if gZ σ 15 a2 = gZ σ 15 a3 then
                        false
                      else
                        true
                  let s1 : St := f_Real_setZero σ a4 t2
                  s1
              else
                f_Oper_answerInfinite_b89 σ a2 a3 a4) := ⟨_, rfl⟩
  have Jt1 : ∀ (t1 : St), Tt1 = t1 → WS p l e { frames := 2, cells := 0, slots := 0, locals := 45 } s m args below meth c Q E 5 110 [(0, .ref 24), (1, .int a1), (2, .ref a2), (3, .ref a3), (4, .ref a4)] [] (t1, τ, q) := by
    intro t1  e_t1
    rw [eTt1] at e_t1
    have hf : f_Oper_answerInfinite σ a1 a2 a3 a4 = t1 := by subst e_t1; exact rfl
    exact wi_vret hC hr hk d_Oper_answerInfinite_110 rfl (congrArg (fun z => (z, τ, q)) hf).symm hQ
  have B2 : Tt1 = f_Oper_answerInfinite_b9 σ a1 a2 a3 a4 → WS p l e { frames := 2, cells := 0, slots := 0, locals := 45 } s m args below meth c Q E 5 9 [(0, .ref 24), (1, .int a1), (2, .ref a2), (3, .ref a3), (4, .ref a4)] [] (σ, τ, q) := by
    intro hB2
    refine wi_aload hC 4 d_Oper_answerInfinite_9 rfl ?_
    refine wi_aload_n hC 2 d_Oper_answerInfinite_11 rfl rfl ?_
    refine k_Real_isInfinite hC ha2 wd_293 (by decide) (Nat.le_of_ble_eq_true rfl) d_Oper_answerInfinite_12 ?_
    obtain ⟨Tt4, eTt4⟩ : ∃ y : Bool, y = (
            if f_Real_isInfinite σ a2 = true then
              gZ σ 15 a2
            else
              let t5 : Bool := 
                  if a1 = 1 then
                    true
                  else
                    false
              if gZ σ 15 a3 = t5 then
                false
              else
                true) := ⟨_, rfl⟩
    have Jt4 : ∀ (t4 : Bool), Tt4 = t4 → WS p l e { frames := 2, cells := 0, slots := 0, locals := 45 } s m args below meth c Q E 5 47 [(0, .ref 24), (1, .int a1), (2, .ref a2), (3, .ref a3), (4, .ref a4)] [.int (bI t4), .ref a4] (σ, τ, q) := by
      intro t4  e_t4
      rw [eTt4] at e_t4
      refine k_Real_setInfinite hC t4 rfl ha4 wd_304 (by decide) (Nat.le_of_ble_eq_true rfl) d_Oper_answerInfinite_47 ?_
      refine wi_nmC (fun s3 e_s3 => ?_)
      refine wi_goto hC 110 d_Oper_answerInfinite_50 (by decide) ?_
      exact Jt1 s3 (by subst e_s3; subst e_t4; exact hB2)
    refine wi_z_eq (b := (f_Real_isInfinite σ a2)) hC 25 d_Oper_answerInfinite_15 (by decide) (fun h7 => ?_) (fun h7 => ?_)
    · skip
      refine wi_aload_n hC 3 d_Oper_answerInfinite_25 rfl rfl ?_
      refine wg_Real_minus hC ha3 wd_296 d_Oper_answerInfinite_26 ?_
      refine wi_iload_n hC 1 d_Oper_answerInfinite_29 rfl rfl ?_
      refine wi_iconst hC 1 (by decide) d_Oper_answerInfinite_30 ?_
      obtain ⟨Tt5, eTt5⟩ : ∃ y : Bool, y = (
              if a1 = 1 then
                true
              else
                false) := ⟨_, rfl⟩
      have Jt5 : ∀ (t5 : Bool), Tt5 = t5 → WS p l e { frames := 2, cells := 0, slots := 0, locals := 45 } s m args below meth c Q E 5 39 [(0, .ref 24), (1, .int a1), (2, .ref a2), (3, .ref a3), (4, .ref a4)] [.int (bI t5), .int (bI (gZ σ 15 a3)), .ref a4] (σ, τ, q) := by
        intro t5  e_t5
        rw [eTt5] at e_t5
        refine wi_zc_eq (a := (gZ σ 15 a3)) (b := t5) hC 46 d_Oper_answerInfinite_39 (by decide) (fun h9 => ?_) (fun h9 => ?_)
        · skip
          refine wi_iconst hC 0 (by decide) d_Oper_answerInfinite_46 ?_
          exact Jt4 false (by subst e_t5; exact (Eq.trans eTt4 (Eq.trans (if_neg h7) (if_pos h9))))
        · skip
          refine wi_iconst hC 1 (by decide) d_Oper_answerInfinite_42 ?_
          refine wi_goto hC 47 d_Oper_answerInfinite_43 (by decide) ?_
          exact Jt4 true (by subst e_t5; exact (Eq.trans eTt4 (Eq.trans (if_neg h7) (if_neg h9))))
      refine wi_icmp_ne hC 38 d_Oper_answerInfinite_31 (by decide) (fun h8 => ?_) (fun h8 => ?_)
      · skip
        refine wi_iconst hC 0 (by decide) d_Oper_answerInfinite_38 ?_
        exact Jt5 false (by exact (Eq.trans eTt5 (if_neg h8)))
      · skip
        refine wi_iconst hC 1 (by decide) d_Oper_answerInfinite_34 ?_
        refine wi_goto hC 39 d_Oper_answerInfinite_35 (by decide) ?_
        exact Jt5 true (by exact (Eq.trans eTt5 (if_pos h8)))
    · skip
      refine wi_aload_n hC 2 d_Oper_answerInfinite_18 rfl rfl ?_
      refine wg_Real_minus hC ha2 wd_296 d_Oper_answerInfinite_19 ?_
      refine wi_goto hC 47 d_Oper_answerInfinite_22 (by decide) ?_
      exact Jt4 (gZ σ 15 a2) (by exact (Eq.trans eTt4 (if_pos h7)))
  refine wi_if_eq hC 9 d_Oper_answerInfinite_1 (by decide) (fun h1 => ?_) (fun h1 => ?_)
  · skip
    exact B2   (by exact (Eq.trans eTt1 (if_pos h1)))
  · skip
    refine wi_iload_n hC 1 d_Oper_answerInfinite_4 rfl rfl ?_
    refine wi_iconst hC 1 (by decide) d_Oper_answerInfinite_5 ?_
    refine wi_icmp_ne hC 53 d_Oper_answerInfinite_6 (by decide) (fun h2 => ?_) (fun h2 => ?_)
    · skip
      refine wi_iload_n hC 1 d_Oper_answerInfinite_53 rfl rfl ?_
      refine wi_iconst hC 3 (by decide) d_Oper_answerInfinite_54 ?_
      have B1 : Tt1 = f_Oper_answerInfinite_b89 σ a2 a3 a4 → WS p l e { frames := 2, cells := 0, slots := 0, locals := 45 } s m args below meth c Q E 5 89 [(0, .ref 24), (1, .int a1), (2, .ref a2), (3, .ref a3), (4, .ref a4)] [] (σ, τ, q) := by
        intro hB1
        refine wi_aload hC 4 d_Oper_answerInfinite_89 rfl ?_
        refine wi_aload_n hC 2 d_Oper_answerInfinite_91 rfl rfl ?_
        refine wg_Real_minus hC ha2 wd_296 d_Oper_answerInfinite_92 ?_
        refine wi_aload_n hC 3 d_Oper_answerInfinite_95 rfl rfl ?_
        refine wg_Real_minus hC ha3 wd_296 d_Oper_answerInfinite_96 ?_
        obtain ⟨Tt3, eTt3⟩ : ∃ y : Bool, y = (
                if gZ σ 15 a2 = gZ σ 15 a3 then
                  false
                else
                  true) := ⟨_, rfl⟩
        have Jt3 : ∀ (t3 : Bool), Tt3 = t3 → WS p l e { frames := 2, cells := 0, slots := 0, locals := 45 } s m args below meth c Q E 5 107 [(0, .ref 24), (1, .int a1), (2, .ref a2), (3, .ref a3), (4, .ref a4)] [.int (bI t3), .ref a4] (σ, τ, q) := by
          intro t3  e_t3
          rw [eTt3] at e_t3
          refine k_Real_setInfinite hC t3 rfl ha4 wd_304 (by decide) (Nat.le_of_ble_eq_true rfl) d_Oper_answerInfinite_107 ?_
          refine wi_nmC (fun s2 e_s2 => ?_)
          exact Jt1 s2 (by subst e_s2; subst e_t3; exact hB1)
        refine wi_zc_eq (a := (gZ σ 15 a2)) (b := (gZ σ 15 a3)) hC 106 d_Oper_answerInfinite_99 (by decide) (fun h6 => ?_) (fun h6 => ?_)
        · skip
          refine wi_iconst hC 0 (by decide) d_Oper_answerInfinite_106 ?_
          exact Jt3 false (by exact (Eq.trans eTt3 (if_pos h6)))
        · skip
          refine wi_iconst hC 1 (by decide) d_Oper_answerInfinite_102 ?_
          refine wi_goto hC 107 d_Oper_answerInfinite_103 (by decide) ?_
          exact Jt3 true (by exact (Eq.trans eTt3 (if_neg h6)))
      refine wi_icmp_ne hC 89 d_Oper_answerInfinite_55 (by decide) (fun h3 => ?_) (fun h3 => ?_)
      · skip
        exact B1   (by exact (Eq.trans eTt1 (Eq.trans (if_neg h1) (Eq.trans (if_neg h2) (if_neg h3)))))
      · skip
        refine wi_aload_n hC 2 d_Oper_answerInfinite_58 rfl rfl ?_
        refine k_Real_isInfinite hC ha2 wd_293 (by decide) (Nat.le_of_ble_eq_true rfl) d_Oper_answerInfinite_59 ?_
        refine wi_z_ne (b := (f_Real_isInfinite σ a2)) hC 89 d_Oper_answerInfinite_62 (by decide) (fun h4 => ?_) (fun h4 => ?_)
        · skip
          exact B1   (by exact (Eq.trans eTt1 (Eq.trans (if_neg h1) (Eq.trans (if_neg h2) (Eq.trans (if_pos h3) (if_pos h4))))))
        · skip
          refine wi_aload hC 4 d_Oper_answerInfinite_65 rfl ?_
          refine wi_aload_n hC 2 d_Oper_answerInfinite_67 rfl rfl ?_
          refine wg_Real_minus hC ha2 wd_296 d_Oper_answerInfinite_68 ?_
          refine wi_aload_n hC 3 d_Oper_answerInfinite_71 rfl rfl ?_
          refine wg_Real_minus hC ha3 wd_296 d_Oper_answerInfinite_72 ?_
          obtain ⟨Tt2, eTt2⟩ : ∃ y : Bool, y = (
                  if gZ σ 15 a2 = gZ σ 15 a3 then
                    false
                  else
                    true) := ⟨_, rfl⟩
          have Jt2 : ∀ (t2 : Bool), Tt2 = t2 → WS p l e { frames := 2, cells := 0, slots := 0, locals := 45 } s m args below meth c Q E 5 83 [(0, .ref 24), (1, .int a1), (2, .ref a2), (3, .ref a3), (4, .ref a4)] [.int (bI t2), .ref a4] (σ, τ, q) := by
            intro t2  e_t2
            rw [eTt2] at e_t2
            refine k_Real_setZero hC t2 rfl ha4 wd_303 (by decide) (Nat.le_of_ble_eq_true rfl) d_Oper_answerInfinite_83 ?_
            refine wi_nmC (fun s1 e_s1 => ?_)
            refine wi_goto hC 110 d_Oper_answerInfinite_86 (by decide) ?_
            exact Jt1 s1 (by subst e_s1; subst e_t2; exact (Eq.trans eTt1 (Eq.trans (if_neg h1) (Eq.trans (if_neg h2) (Eq.trans (if_pos h3) (if_neg h4))))))
          refine wi_zc_eq (a := (gZ σ 15 a2)) (b := (gZ σ 15 a3)) hC 82 d_Oper_answerInfinite_75 (by decide) (fun h5 => ?_) (fun h5 => ?_)
          · skip
            refine wi_iconst hC 0 (by decide) d_Oper_answerInfinite_82 ?_
            exact Jt2 false (by exact (Eq.trans eTt2 (if_pos h5)))
          · skip
            refine wi_iconst hC 1 (by decide) d_Oper_answerInfinite_78 ?_
            refine wi_goto hC 83 d_Oper_answerInfinite_79 (by decide) ?_
            exact Jt2 true (by exact (Eq.trans eTt2 (if_neg h5)))
    · skip
      exact B2   (by exact (Eq.trans eTt1 (Eq.trans (if_neg h1) (if_pos h2))))
theorem k_Oper_answerInfinite {p : Program} {l : Launch} {e : Env} {R : Room} {s : State} {m : MethodId} {args : Array Value} {below : List Frame} {meth : Method} {c : Code} {Q : State → Prop} {E : Ev} {nL pc index : Nat} {lv : List (Nat × Value)} {rest : List Value} {cc : ByteArray} {own : String} {σ τ : St} {q : Int64} {a1 : Int32} {a2 : Nat} {a3 : Nat} {a4 : Nat} (hC : Cx p s m args c cc nL own E)  (ha2 : isReal a2) (ha3 : isReal a3) (ha4 : isReal a4) (hl : Cond.methodLink own index y_Oper_answerInfinite ∈ WL) (hR : 2 + 1 ≤ R.frames ∧ 8 + (5 + 11) + 45 ≤ R.locals) (hs8 : (rest.map fun v => v.category).sum ≤ 8) (d : decode cc pc = .ok (.invokevirtual index, 3)) (k : WS p l e R s m args below meth c Q E nL (pc + 3) lv rest ((f_Oper_answerInfinite σ a1 a2 a3 a4), τ, q)) : WS p l e R s m args below meth c Q E nL pc lv (.ref a4 :: .ref a3 :: .ref a2 :: .int a1 :: .ref 24 :: rest) (σ, τ, q) := by
  exact wi_callV hC (n := 4) (vs := [.int a1, .ref a2, .ref a3, .ref a4]) (rest := rest) 24 6 (by decide) rfl rfl rfl (c_Oper_answerInfinite l E σ τ q a1 a2 a3 a4 ha2 ha3 ha4) (by decide +kernel) wd_305 wd_300 wd_306 wd_307 ⟨rfl, rfl⟩ rfl rfl hl hR hs8 d k
set_option maxRecDepth 100000 in
set_option maxHeartbeats 400000 in
theorem c_Oper_addWithSigns (l : Launch) (E : Ev) (σ τ : St) (q : Int64) (a1 : Bool) (a2 : Bool)  : MF l y_Oper_addWithSigns prog_5_method_6_code 4 (some .boolean) { frames := 2, cells := 0, slots := 0, locals := 46 } E [.ref 24, .int (bI a1), .int (bI a2)] (σ, τ, q) (some (.int (bI ((f_Oper_addWithSigns σ a1 a2).1)))) ((f_Oper_addWithSigns σ a1 a2).2, τ, q) := by
  refine MF_intro (lv0 := [(0, .ref 24), (1, .int (bI a1)), (2, .int (bI a2))]) (by decide) wd_315 (Nat.le_of_ble_eq_true rfl) rfl ?_
  intro p e s m args below meth c Q hC hr hk hQ
  replace hC : Cx p s m args c prog_5_method_6_code 4 "PartnerStack$Operation" E := hC
  refine wi_aload_n hC 0 d_Oper_addWithSigns_0 rfl rfl ?_
  refine wg_Oper_x hC wd_308 d_Oper_addWithSigns_1 ?_
  refine wi_aload_n hC 0 d_Oper_addWithSigns_4 rfl rfl ?_
  refine wg_Oper_y hC wd_309 d_Oper_addWithSigns_5 ?_
  refine k_Size_against hC (by unfold isSize; decide) (by unfold isSize; decide) wd_310 (by decide) (Nat.le_of_ble_eq_true rfl) d_Oper_addWithSigns_8 ?_
  refine wi_nmI (fun v1 e_v1 => ?_)
  refine wi_istore_n hC [(3, .int v1), (0, .ref 24), (1, .int (bI a1)), (2, .int (bI a2))] d_Oper_addWithSigns_11 rfl (by decide) rfl ?_
  refine wi_iload_n hC 0 d_Oper_addWithSigns_12 rfl rfl ?_
  obtain ⟨Tt1, eTt1⟩ : ∃ y : St, y = (
          if 0 ≤ v1 then
            σ
          else
            let s1 : St := f_Size_swap σ 4 5
            s1) := ⟨_, rfl⟩
  have Jt1 : ∀ (t1 : St), Tt1 = t1 → WS p l e { frames := 2, cells := 0, slots := 0, locals := 46 } s m args below meth c Q E 4 27 [(3, .int v1), (0, .ref 24), (1, .int (bI a1)), (2, .int (bI a2))] [] (t1, τ, q) := by
    intro t1  e_t1
    rw [eTt1] at e_t1
    refine wi_iload_n hC 2 d_Oper_addWithSigns_27 rfl rfl ?_
    refine wi_iload_n hC 3 d_Oper_addWithSigns_28 rfl rfl ?_
    refine wi_zc_ne (a := a1) (b := a2) hC 45 d_Oper_addWithSigns_29 (by decide) (fun h2 => ?_) (fun h2 => ?_)
    · skip
      refine wi_aload_n hC 1 d_Oper_addWithSigns_45 rfl rfl ?_
      refine wg_Oper_x hC wd_308 d_Oper_addWithSigns_46 ?_
      refine wi_aload_n hC 1 d_Oper_addWithSigns_49 rfl rfl ?_
      refine wg_Oper_y hC wd_309 d_Oper_addWithSigns_50 ?_
      refine k_Size_subtract hC (by unfold isSize; decide) (by unfold isSize; decide) wd_312 (by decide) (Nat.le_of_ble_eq_true rfl) d_Oper_addWithSigns_53 ?_
      refine wi_nmC (fun s2 e_s2 => ?_)
      refine wi_iload_n hC 0 d_Oper_addWithSigns_56 rfl rfl ?_
      refine wi_if_ne hC 77 d_Oper_addWithSigns_57 (by decide) (fun h3 => ?_) (fun h3 => ?_)
      · skip
        refine wi_iload_n hC 0 d_Oper_addWithSigns_77 rfl rfl ?_
        obtain ⟨Tt2, eTt2⟩ : ∃ y : Bool, y = (
                if v1 ≤ 0 then
                  a2
                else
                  a1) := ⟨_, rfl⟩
        have Jt2 : ∀ (t2 : Bool), Tt2 = t2 → WS p l e { frames := 2, cells := 0, slots := 0, locals := 46 } s m args below meth c Q E 4 86 [(3, .int v1), (0, .ref 24), (1, .int (bI a1)), (2, .int (bI a2))] [.int (bI t2)] (s2, τ, q) := by
          intro t2  e_t2
          rw [eTt2] at e_t2
          have hf : f_Oper_addWithSigns σ a1 a2 = (t2, s2) := by subst e_t2; subst e_s2; subst e_t1; subst e_v1; exact (Eq.trans (if_neg h2) (if_neg h3))
          exact wi_zret hC hr hk d_Oper_addWithSigns_86 rfl (congrArg (fun z => some (Value.int (bI z.1))) hf) (congrArg (fun z => (z.2, τ, q)) hf).symm hQ
        refine wi_if_le hC 85 d_Oper_addWithSigns_78 (by decide) (fun h4 => ?_) (fun h4 => ?_)
        · skip
          refine wi_iload_n hC 3 d_Oper_addWithSigns_85 rfl rfl ?_
          exact Jt2 a2 (by exact (Eq.trans eTt2 (if_pos h4)))
        · skip
          refine wi_iload_n hC 2 d_Oper_addWithSigns_81 rfl rfl ?_
          refine wi_goto hC 86 d_Oper_addWithSigns_82 (by decide) ?_
          exact Jt2 a1 (by exact (Eq.trans eTt2 (if_neg h4)))
      · skip
        refine wi_aload_n hC 1 d_Oper_addWithSigns_60 rfl rfl ?_
        refine wg_Oper_control hC wd_294 d_Oper_addWithSigns_61 ?_
        refine k_Ctl_rounding hC  wd_313 (by decide) (Nat.le_of_ble_eq_true rfl) d_Oper_addWithSigns_64 ?_
        refine wi_iconst hC 1 (by decide) d_Oper_addWithSigns_67 ?_
        obtain ⟨Tt3, eTt3⟩ : ∃ y : Bool, y = (
                if f_Ctl_rounding s2 = 1 then
                  true
                else
                  false) := ⟨_, rfl⟩
        have Jt3 : ∀ (t3 : Bool), Tt3 = t3 → WS p l e { frames := 2, cells := 0, slots := 0, locals := 46 } s m args below meth c Q E 4 76 [(3, .int v1), (0, .ref 24), (1, .int (bI a1)), (2, .int (bI a2))] [.int (bI t3)] (s2, τ, q) := by
          intro t3  e_t3
          rw [eTt3] at e_t3
          have hf : f_Oper_addWithSigns σ a1 a2 = (t3, s2) := by subst e_t3; subst e_s2; subst e_t1; subst e_v1; exact (Eq.trans (if_neg h2) (if_pos h3))
          exact wi_zret hC hr hk d_Oper_addWithSigns_76 rfl (congrArg (fun z => some (Value.int (bI z.1))) hf) (congrArg (fun z => (z.2, τ, q)) hf).symm hQ
        refine wi_icmp_ne hC 75 d_Oper_addWithSigns_68 (by decide) (fun h5 => ?_) (fun h5 => ?_)
        · skip
          refine wi_iconst hC 0 (by decide) d_Oper_addWithSigns_75 ?_
          exact Jt3 false (by exact (Eq.trans eTt3 (if_neg h5)))
        · skip
          refine wi_iconst hC 1 (by decide) d_Oper_addWithSigns_71 ?_
          refine wi_goto hC 76 d_Oper_addWithSigns_72 (by decide) ?_
          exact Jt3 true (by exact (Eq.trans eTt3 (if_pos h5)))
    · skip
      refine wi_aload_n hC 1 d_Oper_addWithSigns_32 rfl rfl ?_
      refine wg_Oper_x hC wd_308 d_Oper_addWithSigns_33 ?_
      refine wi_aload_n hC 1 d_Oper_addWithSigns_36 rfl rfl ?_
      refine wg_Oper_y hC wd_309 d_Oper_addWithSigns_37 ?_
      refine k_Size_add hC (by unfold isSize; decide) (by unfold isSize; decide) wd_314 (by decide) (Nat.le_of_ble_eq_true rfl) d_Oper_addWithSigns_40 ?_
      refine wi_nmC (fun s3 e_s3 => ?_)
      refine wi_iload_n hC 2 d_Oper_addWithSigns_43 rfl rfl ?_
      have hf : f_Oper_addWithSigns σ a1 a2 = (a1, s3) := by subst e_s3; subst e_t1; subst e_v1; exact (if_pos h2)
      exact wi_zret hC hr hk d_Oper_addWithSigns_44 rfl (congrArg (fun z => some (Value.int (bI z.1))) hf) (congrArg (fun z => (z.2, τ, q)) hf).symm hQ
  refine wi_if_ge hC 27 d_Oper_addWithSigns_13 (by decide) (fun h1 => ?_) (fun h1 => ?_)
  · skip
    exact Jt1 σ (by exact (Eq.trans eTt1 (if_pos h1)))
  · skip
    refine wi_aload_n hC 1 d_Oper_addWithSigns_16 rfl rfl ?_
    refine wg_Oper_x hC wd_308 d_Oper_addWithSigns_17 ?_
    refine wi_aload_n hC 1 d_Oper_addWithSigns_20 rfl rfl ?_
    refine wg_Oper_y hC wd_309 d_Oper_addWithSigns_21 ?_
    refine k_Size_swap hC (by unfold isSize; decide) (by unfold isSize; decide) wd_311 (by decide) (Nat.le_of_ble_eq_true rfl) d_Oper_addWithSigns_24 ?_
    refine wi_nmC (fun s1 e_s1 => ?_)
    exact Jt1 s1 (by subst e_s1; exact (Eq.trans eTt1 (if_neg h1)))
theorem k_Oper_addWithSigns {p : Program} {l : Launch} {e : Env} {R : Room} {s : State} {m : MethodId} {args : Array Value} {below : List Frame} {meth : Method} {c : Code} {Q : State → Prop} {E : Ev} {nL pc index : Nat} {lv : List (Nat × Value)} {rest : List Value} {cc : ByteArray} {own : String} {σ τ : St} {q : Int64}  (hC : Cx p s m args c cc nL own E) {x_a1 : Int32} (a1 : Bool) (hx_a1 : x_a1 = bI a1) {x_a2 : Int32} (a2 : Bool) (hx_a2 : x_a2 = bI a2)  (hl : Cond.methodLink own index y_Oper_addWithSigns ∈ WL) (hR : 2 + 1 ≤ R.frames ∧ 8 + (4 + 11) + 46 ≤ R.locals) (hs8 : (rest.map fun v => v.category).sum ≤ 8) (d : decode cc pc = .ok (.invokevirtual index, 3)) (k : WS p l e R s m args below meth c Q E nL (pc + 3) lv ((.int (bI ((f_Oper_addWithSigns σ a1 a2).1))) :: rest) ((f_Oper_addWithSigns σ a1 a2).2, τ, q)) : WS p l e R s m args below meth c Q E nL pc lv (.int x_a2 :: .int x_a1 :: .ref 24 :: rest) (σ, τ, q) := by
  subst hx_a1
  subst hx_a2
  exact wi_callV hC (n := 2) (vs := [.int (bI a1), .int (bI a2)]) (rest := rest) 24 6 (by decide) rfl rfl rfl (c_Oper_addWithSigns l E σ τ q a1 a2 ) (by decide +kernel) wd_315 wd_300 wd_316 wd_317 ⟨rfl, rfl⟩ rfl rfl hl hR hs8 d k
set_option maxRecDepth 100000 in
set_option maxHeartbeats 400000 in
theorem c_Oper_findSize (l : Launch) (E : Ev) (σ τ : St) (q : Int64) (a1 : Int32) (a2 : Nat) (a3 : Nat) (ha2 : isReal a2) (ha3 : isReal a3) : MF l y_Oper_findSize prog_5_method_5_code 4 (some .boolean) { frames := 3, cells := 0, slots := 0, locals := 69 } E [.ref 24, .int a1, .ref a2, .ref a3] (σ, τ, q) (some (.int (bI ((f_Oper_findSize σ a1 a2 a3).1)))) ((f_Oper_findSize σ a1 a2 a3).2, τ, q) := by
  refine MF_intro (lv0 := [(0, .ref 24), (1, .int a1), (2, .ref a2), (3, .ref a3)]) (by decide) wd_323 (Nat.le_of_ble_eq_true rfl) rfl ?_
  intro p e s m args below meth c Q hC hr hk hQ
  replace hC : Cx p s m args c prog_5_method_5_code 4 "PartnerStack$Operation" E := hC
  refine wi_aload_n hC 0 d_Oper_findSize_0 rfl rfl ?_
  refine wg_Oper_x hC wd_308 d_Oper_findSize_1 ?_
  refine wi_aload_n hC 2 d_Oper_findSize_4 rfl rfl ?_
  refine k_Size_load hC (by unfold isSize; decide) ha2 wd_318 (by decide) (Nat.le_of_ble_eq_true rfl) d_Oper_findSize_5 ?_
  refine wi_nmC (fun s1 e_s1 => ?_)
  refine wi_aload_n hC 0 d_Oper_findSize_8 rfl rfl ?_
  refine wg_Oper_y hC wd_309 d_Oper_findSize_9 ?_
  refine wi_aload_n hC 3 d_Oper_findSize_12 rfl rfl ?_
  refine k_Size_load hC (by unfold isSize; decide) ha3 wd_318 (by decide) (Nat.le_of_ble_eq_true rfl) d_Oper_findSize_13 ?_
  refine wi_nmC (fun s2 e_s2 => ?_)
  refine wi_iload_n hC 1 d_Oper_findSize_16 rfl rfl ?_
  refine wi_by (a1 = 0) (fun h1 => ?_) (fun h1 => ?_)
  · skip
    refine wi_tsIn hC 0 48 d_Oper_findSize_17 (by rw [h1]; decide) (by decide) rfl (by decide) ?_
    refine wi_aload_n hC 0 d_Oper_findSize_48 rfl rfl ?_
    refine wi_aload_n hC 2 d_Oper_findSize_49 rfl rfl ?_
    refine wg_Real_minus hC ha2 wd_296 d_Oper_findSize_50 ?_
    refine wi_aload_n hC 3 d_Oper_findSize_53 rfl rfl ?_
    refine wg_Real_minus hC ha3 wd_296 d_Oper_findSize_54 ?_
    refine k_Oper_addWithSigns hC (gZ s2 15 a2) rfl (gZ s2 15 a3) rfl wd_319 (by decide) (Nat.le_of_ble_eq_true rfl) d_Oper_findSize_57 ?_
    obtain ⟨r1, e_r1⟩ : ∃ y : Bool × St, f_Oper_addWithSigns s2 (gZ s2 15 a2) (gZ s2 15 a3) = y := ⟨_, rfl⟩
    rw [e_r1]
    have hf : f_Oper_findSize σ a1 a2 a3 = (r1.1, r1.2) := by subst e_r1; subst e_s2; subst e_s1; exact (if_pos h1)
    exact wi_zret hC hr hk d_Oper_findSize_60 rfl (congrArg (fun z => some (Value.int (bI z.1))) hf) (congrArg (fun z => (z.2, τ, q)) hf).symm hQ
  · skip
    refine wi_by (a1 = 1) (fun h2 => ?_) (fun h2 => ?_)
    · skip
      refine wi_tsIn hC 1 61 d_Oper_findSize_17 (by rw [h2]; decide) (by decide) rfl (by decide) ?_
      refine wi_aload_n hC 0 d_Oper_findSize_61 rfl rfl ?_
      refine wi_aload_n hC 2 d_Oper_findSize_62 rfl rfl ?_
      refine wg_Real_minus hC ha2 wd_296 d_Oper_findSize_63 ?_
      refine wi_aload_n hC 3 d_Oper_findSize_66 rfl rfl ?_
      refine wg_Real_minus hC ha3 wd_296 d_Oper_findSize_67 ?_
      obtain ⟨Tt1, eTt1⟩ : ∃ y : Bool, y = (
              if gZ s2 15 a3 = true then
                false
              else
                true) := ⟨_, rfl⟩
      have Jt1 : ∀ (t1 : Bool), Tt1 = t1 → WS p l e { frames := 3, cells := 0, slots := 0, locals := 69 } s m args below meth c Q E 4 78 [(0, .ref 24), (1, .int a1), (2, .ref a2), (3, .ref a3)] [.int (bI t1), .int (bI (gZ s2 15 a2)), .ref 24] (s2, τ, q) := by
        intro t1  e_t1
        rw [eTt1] at e_t1
        refine k_Oper_addWithSigns hC (gZ s2 15 a2) rfl t1 rfl wd_319 (by decide) (Nat.le_of_ble_eq_true rfl) d_Oper_findSize_78 ?_
        obtain ⟨r2, e_r2⟩ : ∃ y : Bool × St, f_Oper_addWithSigns s2 (gZ s2 15 a2) t1 = y := ⟨_, rfl⟩
        rw [e_r2]
        have hf : f_Oper_findSize σ a1 a2 a3 = (r2.1, r2.2) := by subst e_r2; subst e_t1; subst e_s2; subst e_s1; exact (Eq.trans (if_neg h1) (if_pos h2))
        exact wi_zret hC hr hk d_Oper_findSize_81 rfl (congrArg (fun z => some (Value.int (bI z.1))) hf) (congrArg (fun z => (z.2, τ, q)) hf).symm hQ
      refine wi_z_ne (b := (gZ s2 15 a3)) hC 77 d_Oper_findSize_70 (by decide) (fun h3 => ?_) (fun h3 => ?_)
      · skip
        refine wi_iconst hC 0 (by decide) d_Oper_findSize_77 ?_
        exact Jt1 false (by exact (Eq.trans eTt1 (if_pos h3)))
      · skip
        refine wi_iconst hC 1 (by decide) d_Oper_findSize_73 ?_
        refine wi_goto hC 78 d_Oper_findSize_74 (by decide) ?_
        exact Jt1 true (by exact (Eq.trans eTt1 (if_neg h3)))
    · skip
      refine wi_by (a1 = 2) (fun h4 => ?_) (fun h4 => ?_)
      · skip
        refine wi_tsIn hC 2 82 d_Oper_findSize_17 (by rw [h4]; decide) (by decide) rfl (by decide) ?_
        refine wi_aload_n hC 0 d_Oper_findSize_82 rfl rfl ?_
        refine wg_Oper_x hC wd_308 d_Oper_findSize_83 ?_
        refine wi_aload_n hC 0 d_Oper_findSize_86 rfl rfl ?_
        refine wg_Oper_y hC wd_309 d_Oper_findSize_87 ?_
        refine k_Size_multiply hC (by unfold isSize; decide) (by unfold isSize; decide) wd_320 (by decide) (Nat.le_of_ble_eq_true rfl) d_Oper_findSize_90 ?_
        refine wi_nmC (fun s3 e_s3 => ?_)
        refine wi_aload_n hC 2 d_Oper_findSize_93 rfl rfl ?_
        refine wg_Real_minus hC ha2 wd_296 d_Oper_findSize_94 ?_
        refine wi_aload_n hC 3 d_Oper_findSize_97 rfl rfl ?_
        refine wg_Real_minus hC ha3 wd_296 d_Oper_findSize_98 ?_
        obtain ⟨Tt2, eTt2⟩ : ∃ y : Bool, y = (
                if gZ s3 15 a2 = gZ s3 15 a3 then
                  false
                else
                  true) := ⟨_, rfl⟩
        have Jt2 : ∀ (t2 : Bool), Tt2 = t2 → WS p l e { frames := 3, cells := 0, slots := 0, locals := 69 } s m args below meth c Q E 4 109 [(0, .ref 24), (1, .int a1), (2, .ref a2), (3, .ref a3)] [.int (bI t2)] (s3, τ, q) := by
          intro t2  e_t2
          rw [eTt2] at e_t2
          have hf : f_Oper_findSize σ a1 a2 a3 = (t2, s3) := by subst e_t2; subst e_s3; subst e_s2; subst e_s1; exact (Eq.trans (if_neg h1) (Eq.trans (if_neg h2) (if_pos h4)))
          exact wi_zret hC hr hk d_Oper_findSize_109 rfl (congrArg (fun z => some (Value.int (bI z.1))) hf) (congrArg (fun z => (z.2, τ, q)) hf).symm hQ
        refine wi_zc_eq (a := (gZ s3 15 a2)) (b := (gZ s3 15 a3)) hC 108 d_Oper_findSize_101 (by decide) (fun h5 => ?_) (fun h5 => ?_)
        · skip
          refine wi_iconst hC 0 (by decide) d_Oper_findSize_108 ?_
          exact Jt2 false (by exact (Eq.trans eTt2 (if_pos h5)))
        · skip
          refine wi_iconst hC 1 (by decide) d_Oper_findSize_104 ?_
          refine wi_goto hC 109 d_Oper_findSize_105 (by decide) ?_
          exact Jt2 true (by exact (Eq.trans eTt2 (if_neg h5)))
      · skip
        refine wi_by (a1 = 3) (fun h6 => ?_) (fun h6 => ?_)
        · skip
          refine wi_tsIn hC 3 110 d_Oper_findSize_17 (by rw [h6]; decide) (by decide) rfl (by decide) ?_
          refine wi_aload_n hC 0 d_Oper_findSize_110 rfl rfl ?_
          refine wg_Oper_x hC wd_308 d_Oper_findSize_111 ?_
          refine wi_aload_n hC 0 d_Oper_findSize_114 rfl rfl ?_
          refine wg_Oper_y hC wd_309 d_Oper_findSize_115 ?_
          refine k_Size_divide hC (by unfold isSize; decide) (by unfold isSize; decide) wd_321 (by decide) (Nat.le_of_ble_eq_true rfl) d_Oper_findSize_118 ?_
          refine wi_nmC (fun s4 e_s4 => ?_)
          refine wi_aload_n hC 2 d_Oper_findSize_121 rfl rfl ?_
          refine wg_Real_minus hC ha2 wd_296 d_Oper_findSize_122 ?_
          refine wi_aload_n hC 3 d_Oper_findSize_125 rfl rfl ?_
          refine wg_Real_minus hC ha3 wd_296 d_Oper_findSize_126 ?_
          obtain ⟨Tt3, eTt3⟩ : ∃ y : Bool, y = (
                  if gZ s4 15 a2 = gZ s4 15 a3 then
                    false
                  else
                    true) := ⟨_, rfl⟩
          have Jt3 : ∀ (t3 : Bool), Tt3 = t3 → WS p l e { frames := 3, cells := 0, slots := 0, locals := 69 } s m args below meth c Q E 4 137 [(0, .ref 24), (1, .int a1), (2, .ref a2), (3, .ref a3)] [.int (bI t3)] (s4, τ, q) := by
            intro t3  e_t3
            rw [eTt3] at e_t3
            have hf : f_Oper_findSize σ a1 a2 a3 = (t3, s4) := by subst e_t3; subst e_s4; subst e_s2; subst e_s1; exact (Eq.trans (if_neg h1) (Eq.trans (if_neg h2) (Eq.trans (if_neg h4) (if_pos h6))))
            exact wi_zret hC hr hk d_Oper_findSize_137 rfl (congrArg (fun z => some (Value.int (bI z.1))) hf) (congrArg (fun z => (z.2, τ, q)) hf).symm hQ
          refine wi_zc_eq (a := (gZ s4 15 a2)) (b := (gZ s4 15 a3)) hC 136 d_Oper_findSize_129 (by decide) (fun h7 => ?_) (fun h7 => ?_)
          · skip
            refine wi_iconst hC 0 (by decide) d_Oper_findSize_136 ?_
            exact Jt3 false (by exact (Eq.trans eTt3 (if_pos h7)))
          · skip
            refine wi_iconst hC 1 (by decide) d_Oper_findSize_132 ?_
            refine wi_goto hC 137 d_Oper_findSize_133 (by decide) ?_
            exact Jt3 true (by exact (Eq.trans eTt3 (if_neg h7)))
        · skip
          refine wi_tsOut hC 138 d_Oper_findSize_17 (by have q0 := lv_neT h1 (a := 0) (by decide); have q1 := lv_neT h2 (a := 1) (by decide); have q2 := lv_neT h4 (a := 2) (by decide); have q3 := lv_neT h6 (a := 3) (by decide); omega) (by decide) ?_
          refine wi_aload_n hC 0 d_Oper_findSize_138 rfl rfl ?_
          refine wg_Oper_x hC wd_308 d_Oper_findSize_139 ?_
          refine k_Size_root hC (by unfold isSize; decide) wd_322 (by decide) (Nat.le_of_ble_eq_true rfl) d_Oper_findSize_142 ?_
          refine wi_nmC (fun s5 e_s5 => ?_)
          refine wi_aload_n hC 2 d_Oper_findSize_145 rfl rfl ?_
          refine wg_Real_minus hC ha2 wd_296 d_Oper_findSize_146 ?_
          have hf : f_Oper_findSize σ a1 a2 a3 = (gZ s5 15 a2, s5) := by subst e_s5; subst e_s2; subst e_s1; exact (Eq.trans (if_neg h1) (Eq.trans (if_neg h2) (Eq.trans (if_neg h4) (if_neg h6))))
          exact wi_zret hC hr hk d_Oper_findSize_149 rfl (congrArg (fun z => some (Value.int (bI z.1))) hf) (congrArg (fun z => (z.2, τ, q)) hf).symm hQ
theorem k_Oper_findSize {p : Program} {l : Launch} {e : Env} {R : Room} {s : State} {m : MethodId} {args : Array Value} {below : List Frame} {meth : Method} {c : Code} {Q : State → Prop} {E : Ev} {nL pc index : Nat} {lv : List (Nat × Value)} {rest : List Value} {cc : ByteArray} {own : String} {σ τ : St} {q : Int64} {a1 : Int32} {a2 : Nat} {a3 : Nat} (hC : Cx p s m args c cc nL own E)  (ha2 : isReal a2) (ha3 : isReal a3) (hl : Cond.methodLink own index y_Oper_findSize ∈ WL) (hR : 3 + 1 ≤ R.frames ∧ 8 + (4 + 11) + 69 ≤ R.locals) (hs8 : (rest.map fun v => v.category).sum ≤ 8) (d : decode cc pc = .ok (.invokevirtual index, 3)) (k : WS p l e R s m args below meth c Q E nL (pc + 3) lv ((.int (bI ((f_Oper_findSize σ a1 a2 a3).1))) :: rest) ((f_Oper_findSize σ a1 a2 a3).2, τ, q)) : WS p l e R s m args below meth c Q E nL pc lv (.ref a3 :: .ref a2 :: .int a1 :: .ref 24 :: rest) (σ, τ, q) := by
  exact wi_callV hC (n := 3) (vs := [.int a1, .ref a2, .ref a3]) (rest := rest) 24 6 (by decide) rfl rfl rfl (c_Oper_findSize l E σ τ q a1 a2 a3 ha2 ha3) (by decide +kernel) wd_323 wd_300 wd_324 wd_325 ⟨rfl, rfl⟩ rfl rfl hl hR hs8 d k
set_option maxRecDepth 100000 in
set_option maxHeartbeats 400000 in
theorem c_Oper_operate (l : Launch) (E : Ev) (σ τ : St) (q : Int64) (a1 : Int32) (a2 : Nat) (a3 : Nat) (a4 : Nat) (ha2 : isReal a2) (ha3 : isReal a3) (ha4 : isReal a4) : MF l y_Oper_operate prog_5_method_2_code 6 none { frames := 4, cells := 0, slots := 0, locals := 106 } E [.ref 24, .int a1, .ref a2, .ref a3, .ref a4] (σ, τ, q) none ((f_Oper_operate σ a1 a2 a3 a4), τ, q) := by
  refine MF_intro (lv0 := [(0, .ref 24), (1, .int a1), (2, .ref a2), (3, .ref a3), (4, .ref a4)]) (by decide) wd_334 (Nat.le_of_ble_eq_true rfl) rfl ?_
  intro p e s m args below meth c Q hC hr hk hQ
  replace hC : Cx p s m args c prog_5_method_2_code 6 "PartnerStack$Operation" E := hC
  refine wi_aload_n hC 0 d_Oper_operate_0 rfl rfl ?_
  refine wg_Oper_control hC wd_294 d_Oper_operate_1 ?_
  refine wi_aload_n hC 2 d_Oper_operate_4 rfl rfl ?_
  refine wi_aload_n hC 3 d_Oper_operate_5 rfl rfl ?_
  refine wi_aload_n hC 0 d_Oper_operate_6 rfl rfl ?_
  refine wi_iload_n hC 1 d_Oper_operate_7 rfl rfl ?_
  refine wi_aload_n hC 2 d_Oper_operate_8 rfl rfl ?_
  refine wi_aload_n hC 3 d_Oper_operate_9 rfl rfl ?_
  refine k_Oper_cannotBe hC ha2 ha3 wd_326 (by decide) (Nat.le_of_ble_eq_true rfl) d_Oper_operate_10 ?_
  refine wi_aload hC 4 d_Oper_operate_13 rfl ?_
  refine k_Ctl_settles hC (f_Oper_cannotBe σ a1 a2 a3) rfl ha2 ha3 ha4 wd_327 (by decide) (Nat.le_of_ble_eq_true rfl) d_Oper_operate_15 ?_
  obtain ⟨r1, e_r1⟩ : ∃ y : Bool × St, f_Ctl_settles σ a2 a3 (f_Oper_cannotBe σ a1 a2 a3) a4 = y := ⟨_, rfl⟩
  rw [e_r1]
  refine wi_z_eq (b := r1.1) hC 22 d_Oper_operate_18 (by decide) (fun h1 => ?_) (fun h1 => ?_)
  · skip
    refine wi_iload_n hC 1 d_Oper_operate_22 rfl rfl ?_
    refine wi_iconst hC 3 (by decide) d_Oper_operate_23 ?_
    obtain ⟨Tt1, eTt1⟩ : ∃ y : St, y = (
            if a1 = 3 then
              if f_Real_isNothing r1.2 a3 = true then
                if f_Real_isInfinite r1.2 a2 = true then
                  f_Oper_operate_b73 a1 a2 a3 a4 r1
                else
                  let s1 : St := f_Ctl_tell r1.2 4
                  let t2 : Bool := 
                      if gZ s1 15 a2 = gZ s1 15 a3 then
                        false
                      else
                        true
                  let s2 : St := f_Real_setInfinite s1 a4 t2
                  s2
              else
                f_Oper_operate_b73 a1 a2 a3 a4 r1
            else
              f_Oper_operate_b73 a1 a2 a3 a4 r1) := ⟨_, rfl⟩
    have Jt1 : ∀ (t1 : St), Tt1 = t1 → WS p l e { frames := 4, cells := 0, slots := 0, locals := 106 } s m args below meth c Q E 6 130 [(0, .ref 24), (1, .int a1), (2, .ref a2), (3, .ref a3), (4, .ref a4)] [] (t1, τ, q) := by
      intro t1  e_t1
      rw [eTt1] at e_t1
      have hf : f_Oper_operate σ a1 a2 a3 a4 = t1 := by subst e_t1; subst e_r1; exact (if_neg h1)
      exact wi_vret hC hr hk d_Oper_operate_130 rfl (congrArg (fun z => (z, τ, q)) hf).symm hQ
    have B1 : Tt1 = f_Oper_operate_b73 a1 a2 a3 a4 r1 → WS p l e { frames := 4, cells := 0, slots := 0, locals := 106 } s m args below meth c Q E 6 73 [(0, .ref 24), (1, .int a1), (2, .ref a2), (3, .ref a3), (4, .ref a4)] [] (r1.2, τ, q) := by
      intro hB1
      refine wi_aload_n hC 2 d_Oper_operate_73 rfl rfl ?_
      refine k_Real_isInfinite hC ha2 wd_293 (by decide) (Nat.le_of_ble_eq_true rfl) d_Oper_operate_74 ?_
      have B2 : Tt1 = f_Oper_operate_b87 a1 a2 a3 a4 r1 → WS p l e { frames := 4, cells := 0, slots := 0, locals := 106 } s m args below meth c Q E 6 87 [(0, .ref 24), (1, .int a1), (2, .ref a2), (3, .ref a3), (4, .ref a4)] [] (r1.2, τ, q) := by
        intro hB2
        refine wi_aload_n hC 0 d_Oper_operate_87 rfl rfl ?_
        refine wi_iload_n hC 1 d_Oper_operate_88 rfl rfl ?_
        refine wi_aload_n hC 2 d_Oper_operate_89 rfl rfl ?_
        refine wi_aload_n hC 3 d_Oper_operate_90 rfl rfl ?_
        refine wi_aload hC 4 d_Oper_operate_91 rfl ?_
        refine k_Oper_answerInfinite hC ha2 ha3 ha4 wd_333 (by decide) (Nat.le_of_ble_eq_true rfl) d_Oper_operate_93 ?_
        refine wi_nmC (fun s4 e_s4 => ?_)
        refine wi_goto hC 130 d_Oper_operate_96 (by decide) ?_
        exact Jt1 s4 (by subst e_s4; exact hB2)
      refine wi_z_ne (b := (f_Real_isInfinite r1.2 a2)) hC 87 d_Oper_operate_77 (by decide) (fun h6 => ?_) (fun h6 => ?_)
      · skip
        exact B2   (by exact (Eq.trans hB1 (if_pos h6)))
      · skip
        refine wi_aload_n hC 3 d_Oper_operate_80 rfl rfl ?_
        refine k_Real_isInfinite hC ha3 wd_293 (by decide) (Nat.le_of_ble_eq_true rfl) d_Oper_operate_81 ?_
        refine wi_z_eq (b := (f_Real_isInfinite r1.2 a3)) hC 99 d_Oper_operate_84 (by decide) (fun h7 => ?_) (fun h7 => ?_)
        · skip
          refine wi_aload_n hC 0 d_Oper_operate_99 rfl rfl ?_
          refine wi_iload_n hC 1 d_Oper_operate_100 rfl rfl ?_
          refine wi_aload_n hC 2 d_Oper_operate_101 rfl rfl ?_
          refine wi_aload_n hC 3 d_Oper_operate_102 rfl rfl ?_
          refine k_Oper_findSize hC ha2 ha3 wd_329 (by decide) (Nat.le_of_ble_eq_true rfl) d_Oper_operate_103 ?_
          obtain ⟨r2, e_r2⟩ : ∃ y : Bool × St, f_Oper_findSize r1.2 a1 a2 a3 = y := ⟨_, rfl⟩
          rw [e_r2]
          refine wi_istore hC [(5, .int (bI r2.1)), (0, .ref 24), (1, .int a1), (2, .ref a2), (3, .ref a3), (4, .ref a4)] d_Oper_operate_106 (by decide) rfl ?_
          refine wi_aload_n hC 1 d_Oper_operate_108 rfl rfl ?_
          refine wg_Oper_maker hC wd_330 d_Oper_operate_109 ?_
          refine wi_aload_n hC 1 d_Oper_operate_112 rfl rfl ?_
          refine wg_Oper_x hC wd_308 d_Oper_operate_113 ?_
          refine wi_iload hC 0 d_Oper_operate_116 rfl ?_
          refine wi_aload_n hC 1 d_Oper_operate_118 rfl rfl ?_
          refine wg_Oper_control hC wd_294 d_Oper_operate_119 ?_
          refine k_Ctl_digits hC  wd_331 (by decide) (Nat.le_of_ble_eq_true rfl) d_Oper_operate_122 ?_
          refine wi_aload hC 5 d_Oper_operate_125 rfl ?_
          refine k_Maker_make hC r2.1 rfl (by unfold isMaker; decide) (by unfold isSize; decide) ha4 wd_332 (by decide) (Nat.le_of_ble_eq_true rfl) d_Oper_operate_127 ?_
          refine wi_nmC (fun s3 e_s3 => ?_)
          refine wi_lv [1, 2, 3, 4, 5] [(0, .ref 24), (1, .int a1), (2, .ref a2), (3, .ref a3), (4, .ref a4)] rfl ?_
          exact Jt1 s3 (by subst e_s3; subst e_r2; exact (Eq.trans hB1 (Eq.trans (if_neg h6) (if_neg h7))))
        · skip
          exact B2   (by exact (Eq.trans hB1 (Eq.trans (if_neg h6) (if_pos h7))))
    refine wi_icmp_ne hC 73 d_Oper_operate_24 (by decide) (fun h2 => ?_) (fun h2 => ?_)
    · skip
      exact B1   (by exact (Eq.trans eTt1 (if_neg h2)))
    · skip
      refine wi_aload_n hC 3 d_Oper_operate_27 rfl rfl ?_
      refine k_Real_isNothing hC ha3 wd_297 (by decide) (Nat.le_of_ble_eq_true rfl) d_Oper_operate_28 ?_
      refine wi_z_eq (b := (f_Real_isNothing r1.2 a3)) hC 73 d_Oper_operate_31 (by decide) (fun h3 => ?_) (fun h3 => ?_)
      · skip
        exact B1   (by exact (Eq.trans eTt1 (Eq.trans (if_pos h2) (if_neg h3))))
      · skip
        refine wi_aload_n hC 2 d_Oper_operate_34 rfl rfl ?_
        refine k_Real_isInfinite hC ha2 wd_293 (by decide) (Nat.le_of_ble_eq_true rfl) d_Oper_operate_35 ?_
        refine wi_z_ne (b := (f_Real_isInfinite r1.2 a2)) hC 73 d_Oper_operate_38 (by decide) (fun h4 => ?_) (fun h4 => ?_)
        · skip
          exact B1   (by exact (Eq.trans eTt1 (Eq.trans (if_pos h2) (Eq.trans (if_pos h3) (if_pos h4)))))
        · skip
          refine wi_aload_n hC 0 d_Oper_operate_41 rfl rfl ?_
          refine wg_Oper_control hC wd_294 d_Oper_operate_42 ?_
          refine wi_iconst hC 4 (by decide) d_Oper_operate_45 ?_
          refine k_Ctl_tell hC  wd_328 (by decide) (Nat.le_of_ble_eq_true rfl) d_Oper_operate_46 ?_
          refine wi_nmC (fun s1 e_s1 => ?_)
          refine wi_aload hC 4 d_Oper_operate_49 rfl ?_
          refine wi_aload_n hC 2 d_Oper_operate_51 rfl rfl ?_
          refine wg_Real_minus hC ha2 wd_296 d_Oper_operate_52 ?_
          refine wi_aload_n hC 3 d_Oper_operate_55 rfl rfl ?_
          refine wg_Real_minus hC ha3 wd_296 d_Oper_operate_56 ?_
          obtain ⟨Tt2, eTt2⟩ : ∃ y : Bool, y = (
                  if gZ s1 15 a2 = gZ s1 15 a3 then
                    false
                  else
                    true) := ⟨_, rfl⟩
          have Jt2 : ∀ (t2 : Bool), Tt2 = t2 → WS p l e { frames := 4, cells := 0, slots := 0, locals := 106 } s m args below meth c Q E 6 67 [(0, .ref 24), (1, .int a1), (2, .ref a2), (3, .ref a3), (4, .ref a4)] [.int (bI t2), .ref a4] (s1, τ, q) := by
            intro t2  e_t2
            rw [eTt2] at e_t2
            refine k_Real_setInfinite hC t2 rfl ha4 wd_304 (by decide) (Nat.le_of_ble_eq_true rfl) d_Oper_operate_67 ?_
            refine wi_nmC (fun s2 e_s2 => ?_)
            refine wi_goto hC 130 d_Oper_operate_70 (by decide) ?_
            exact Jt1 s2 (by subst e_s2; subst e_t2; subst e_s1; exact (Eq.trans eTt1 (Eq.trans (if_pos h2) (Eq.trans (if_pos h3) (if_neg h4)))))
          refine wi_zc_eq (a := (gZ s1 15 a2)) (b := (gZ s1 15 a3)) hC 66 d_Oper_operate_59 (by decide) (fun h5 => ?_) (fun h5 => ?_)
          · skip
            refine wi_iconst hC 0 (by decide) d_Oper_operate_66 ?_
            exact Jt2 false (by exact (Eq.trans eTt2 (if_pos h5)))
          · skip
            refine wi_iconst hC 1 (by decide) d_Oper_operate_62 ?_
            refine wi_goto hC 67 d_Oper_operate_63 (by decide) ?_
            exact Jt2 true (by exact (Eq.trans eTt2 (if_neg h5)))
  · skip
    have hf : f_Oper_operate σ a1 a2 a3 a4 = r1.2 := by subst e_r1; exact (if_pos h1)
    exact wi_vret hC hr hk d_Oper_operate_21 rfl (congrArg (fun z => (z, τ, q)) hf).symm hQ
theorem k_Oper_operate {p : Program} {l : Launch} {e : Env} {R : Room} {s : State} {m : MethodId} {args : Array Value} {below : List Frame} {meth : Method} {c : Code} {Q : State → Prop} {E : Ev} {nL pc index : Nat} {lv : List (Nat × Value)} {rest : List Value} {cc : ByteArray} {own : String} {σ τ : St} {q : Int64} {a1 : Int32} {a2 : Nat} {a3 : Nat} {a4 : Nat} (hC : Cx p s m args c cc nL own E)  (ha2 : isReal a2) (ha3 : isReal a3) (ha4 : isReal a4) (hl : Cond.methodLink own index y_Oper_operate ∈ WL) (hR : 4 + 1 ≤ R.frames ∧ 8 + (6 + 11) + 106 ≤ R.locals) (hs8 : (rest.map fun v => v.category).sum ≤ 8) (d : decode cc pc = .ok (.invokevirtual index, 3)) (k : WS p l e R s m args below meth c Q E nL (pc + 3) lv rest ((f_Oper_operate σ a1 a2 a3 a4), τ, q)) : WS p l e R s m args below meth c Q E nL pc lv (.ref a4 :: .ref a3 :: .ref a2 :: .int a1 :: .ref 24 :: rest) (σ, τ, q) := by
  exact wi_callV hC (n := 4) (vs := [.int a1, .ref a2, .ref a3, .ref a4]) (rest := rest) 24 6 (by decide) rfl rfl rfl (c_Oper_operate l E σ τ q a1 a2 a3 a4 ha2 ha3 ha4) (by decide +kernel) wd_334 wd_300 wd_335 wd_336 ⟨rfl, rfl⟩ rfl rfl hl hR hs8 d k
