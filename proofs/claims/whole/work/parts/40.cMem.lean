set_option maxRecDepth 100000 in
set_option maxHeartbeats 400000 in
theorem c_Mem_put (l : Launch) (E : Ev) (σ τ : St) (q : Int64) (a1 : Int32) (a2 : Int32) (a3 : Int64)  : MF l y_Mem_put prog_4_method_3_code 6 none { frames := 0, cells := 0, slots := 0, locals := 0 } E [.ref 1, .int a1, .int a2, .long a3] (σ, τ, q) none ((f_Mem_put σ a1 a2 a3), τ, q) := by
  refine MF_intro (lv0 := [(0, .ref 1), (1, .int a1), (2, .int a2), (3, .long a3)]) (by decide) wd_1 (Nat.le_of_ble_eq_true rfl) rfl ?_
  intro p e s m args below meth c Q hC hr hk hQ
  replace hC : Cx p s m args c prog_4_method_3_code 6 "PartnerStack$Memory" E := hC
  refine wi_iconst hC 0 (by decide) d_Mem_put_0 ?_
  refine wi_istore hC [(5, .int 0), (0, .ref 1), (1, .int a1), (2, .int a2), (3, .long a3)] d_Mem_put_1 (by decide) rfl ?_
  refine wi_loop ((b_Mem_put_3 a1 a2 a3)) (fun t2 => 0 ≤ (t2.1).toInt) (fun t2 => [(5, .int t2.1), (0, .ref 1), (1, .int a1), (2, .int a2), (3, .long a3)]) (fun t2 => (t2.2, τ, q)) 49 ?_ (up_inv (b := (b_Mem_put_3 a1 a2 a3)) (fun t => t.1) a2 0 (st_b_Mem_put_3 a1 a2 a3)) (upf a2 0) (0, σ) (show (0 : Int) ≤ (0 : Int32).toInt by decide) (up_halt (b := (b_Mem_put_3 a1 a2 a3)) (fun t => t.1) a2 (st_b_Mem_put_3 a1 a2 a3) (0, σ)) ?_
  · intro t2 hi_t2 hc_t2 hx_t2
    refine wi_iload hC 0 d_Mem_put_3 rfl ?_
    refine wi_iload_n hC 3 d_Mem_put_5 rfl rfl ?_
    refine wi_icmp_ge hC 49 d_Mem_put_6 (by decide) (fun h1 => ?_) (fun h1 => ?_)
    · skip
      exact hx_t2 (t2.1, t2.2) (by exact (if_pos h1))
    · skip
      refine wi_iload_n hC 2 d_Mem_put_9 rfl rfl ?_
      refine wi_iload hC 0 d_Mem_put_10 rfl ?_
      refine wi_iadd hC d_Mem_put_12 ?_
      obtain ⟨Tt3, eTt3⟩ : ∃ y : St, y = (
              if (a1 + t2.1) < 0 then
                t2.2
              else
                if 94 ≤ (a1 + t2.1) then
                  t2.2
                else
                  let s1 : St := sI t2.2 100 (jat (a1 + t2.1)) (jb (jb (Int64.toInt32 (jlushr a3 (8 * t2.1)))))
                  s1) := ⟨_, rfl⟩
      have Jt3 : ∀ (t3 : St), Tt3 = t3 → WS p l e { frames := 0, cells := 0, slots := 0, locals := 0 } s m args below meth c Q E 6 43 [(5, .int t2.1), (0, .ref 1), (1, .int a1), (2, .int a2), (3, .long a3)] [] (t3, τ, q) := by
        intro t3  e_t3
        rw [eTt3] at e_t3
        obtain ⟨v1, e_v1⟩ : ∃ y : Int32, t2.1 + 1 = y := ⟨_, rfl⟩
        refine wi_iinc hC 0 v1 [(5, .int v1), (0, .ref 1), (1, .int a1), (2, .int a2), (3, .long a3)] d_Mem_put_43 rfl (by rw [← e_v1]; rfl) (by decide) rfl ?_
        refine wi_goto hC 3 d_Mem_put_46 (by decide) ?_
        exact hc_t2 (v1, t3) (by subst e_v1; subst e_t3; exact (if_neg h1))
      refine wi_if_lt hC 43 d_Mem_put_13 (by decide) (fun h2 => ?_) (fun h2 => ?_)
      · skip
        exact Jt3 t2.2 (by exact (Eq.trans eTt3 (if_pos h2)))
      · skip
        refine wi_iload_n hC 2 d_Mem_put_16 rfl rfl ?_
        refine wi_iload hC 0 d_Mem_put_17 rfl ?_
        refine wi_iadd hC d_Mem_put_19 ?_
        refine wi_bipush hC 94 (by decide) d_Mem_put_20 ?_
        refine wi_icmp_ge hC 43 d_Mem_put_22 (by decide) (fun h3 => ?_) (fun h3 => ?_)
        · skip
          exact Jt3 t2.2 (by exact (Eq.trans eTt3 (Eq.trans (if_neg h2) (if_pos h3))))
        · skip
          refine wi_aload_n hC 1 d_Mem_put_25 rfl rfl ?_
          refine wg_Mem_bytes hC wd_0 d_Mem_put_26 ?_
          refine wi_iload_n hC 2 d_Mem_put_29 rfl rfl ?_
          refine wi_iload hC 0 d_Mem_put_30 rfl ?_
          refine wi_iadd hC d_Mem_put_32 ?_
          refine wi_lload_n hC 4 d_Mem_put_33 rfl rfl ?_
          refine wi_bipush hC 8 (by decide) d_Mem_put_34 ?_
          refine wi_iload hC 0 d_Mem_put_36 rfl ?_
          refine wi_imul hC d_Mem_put_38 ?_
          refine wi_lushr hC d_Mem_put_39 ?_
          refine wi_l2i hC d_Mem_put_40 ?_
          refine wi_i2b hC d_Mem_put_41 ?_
          refine wa_st2 hC (vin_of (lo_n h2) (hi_n h3 (by decide))) d_Mem_put_42 ?_
          refine wi_nmC (fun s1 e_s1 => ?_)
          exact Jt3 s1 (by subst e_s1; exact (Eq.trans eTt3 (Eq.trans (if_neg h2) (if_neg h3))))
  obtain ⟨t1, e_t1⟩ : ∃ y : Int32 × St, lpn ((b_Mem_put_3 a1 a2 a3)) (upf a2 0) (0, σ) = y := ⟨_, rfl⟩
  rw [e_t1]
  have hf : f_Mem_put σ a1 a2 a3 = t1.2 := by subst e_t1; exact rfl
  exact wi_vret hC hr hk d_Mem_put_49 rfl (congrArg (fun z => (z, τ, q)) hf).symm hQ
theorem k_Mem_put {p : Program} {l : Launch} {e : Env} {R : Room} {s : State} {m : MethodId} {args : Array Value} {below : List Frame} {meth : Method} {c : Code} {Q : State → Prop} {E : Ev} {nL pc index : Nat} {lv : List (Nat × Value)} {rest : List Value} {cc : ByteArray} {own : String} {σ τ : St} {q : Int64} {a1 : Int32} {a2 : Int32} {a3 : Int64} (hC : Cx p s m args c cc nL own E)   (hl : Cond.methodLink own index y_Mem_put ∈ WL) (hR : 0 + 1 ≤ R.frames ∧ 8 + (6 + 11) + 0 ≤ R.locals) (hs8 : (rest.map fun v => v.category).sum ≤ 8) (d : decode cc pc = .ok (.invokevirtual index, 3)) (k : WS p l e R s m args below meth c Q E nL (pc + 3) lv rest ((f_Mem_put σ a1 a2 a3), τ, q)) : WS p l e R s m args below meth c Q E nL pc lv (.long a3 :: .int a2 :: .int a1 :: .ref 1 :: rest) (σ, τ, q) := by
  exact wi_callV hC (n := 3) (vs := [.int a1, .int a2, .long a3]) (rest := rest) 1 1 (by decide) rfl rfl rfl (c_Mem_put l E σ τ q a1 a2 a3 ) (by decide +kernel) wd_1 wd_2 wd_3 wd_4 ⟨rfl, rfl⟩ rfl rfl hl hR hs8 d k
set_option maxRecDepth 100000 in
set_option maxHeartbeats 400000 in
theorem c_Mem_bits (l : Launch) (E : Ev) (σ τ : St) (q : Int64) (a1 : Int32) (a2 : Int32) (hp : -2147483648 < a1.toInt) : MF l y_Mem_bits prog_4_method_2_code 6 (some .long) { frames := 0, cells := 0, slots := 0, locals := 0 } E [.ref 1, .int a1, .int a2] (σ, τ, q) (some (.long (f_Mem_bits σ a1 a2))) (σ, τ, q) := by
  refine MF_intro (lv0 := [(0, .ref 1), (1, .int a1), (2, .int a2)]) (by decide) wd_5 (Nat.le_of_ble_eq_true rfl) rfl ?_
  intro p e s m args below meth c Q hC hr hk hQ
  replace hC : Cx p s m args c prog_4_method_2_code 6 "PartnerStack$Memory" E := hC
  refine wi_lconst hC 0 (by decide) d_Mem_bits_0 ?_
  refine wi_lstore_n hC [(3, .long 0), (0, .ref 1), (1, .int a1), (2, .int a2)] d_Mem_bits_1 rfl (by decide) rfl ?_
  refine wi_iload_n hC 2 d_Mem_bits_2 rfl rfl ?_
  refine wi_iload_n hC 3 d_Mem_bits_3 rfl rfl ?_
  refine wi_iadd hC d_Mem_bits_4 ?_
  refine wi_iconst hC 1 (by decide) d_Mem_bits_5 ?_
  refine wi_isub hC d_Mem_bits_6 ?_
  refine wi_nmI (fun v1 e_v1 => ?_)
  refine wi_istore hC [(5, .int v1), (3, .long 0), (0, .ref 1), (1, .int a1), (2, .int a2)] d_Mem_bits_7 (by decide) rfl ?_
  refine wi_loop ((b_Mem_bits_9 σ a1)) (fun t2 => True) (fun t2 => [(5, .int t2.1), (3, .long t2.2), (0, .ref 1), (1, .int a1), (2, .int a2)]) (fun t2 => (σ, τ, q)) 51 ?_ (fun _ _ _ _ => trivial) (dbf a1 v1) (v1, 0) trivial (db_halt (b := (b_Mem_bits_9 σ a1)) (fun t => t.1) a1 hp (st_b_Mem_bits_9 σ a1) (v1, 0)) ?_
  · intro t2 hi_t2 hc_t2 hx_t2
    refine wi_iload hC 0 d_Mem_bits_9 rfl ?_
    refine wi_iload_n hC 3 d_Mem_bits_11 rfl rfl ?_
    refine wi_icmp_lt hC 51 d_Mem_bits_12 (by decide) (fun h1 => ?_) (fun h1 => ?_)
    · skip
      exact hx_t2 (t2.1, t2.2) (by exact (if_pos h1))
    · skip
      refine wi_iload hC 0 d_Mem_bits_15 rfl ?_
      obtain ⟨Tt3, eTt3⟩ : ∃ y : Int64, y = (
              if t2.1 < 0 then
                t2.2
              else
                if 94 ≤ t2.1 then
                  t2.2
                else
                  let v2 : Int64 := (jlshl t2.2 8) ||| (Int32.toInt64 ((gI σ 100 (jat t2.1)) &&& 255))
                  v2) := ⟨_, rfl⟩
      have Jt3 : ∀ (t3 : Int64), Tt3 = t3 → WS p l e { frames := 0, cells := 0, slots := 0, locals := 0 } s m args below meth c Q E 6 45 [(5, .int t2.1), (3, .long t3), (0, .ref 1), (1, .int a1), (2, .int a2)] [] (σ, τ, q) := by
        intro t3  e_t3
        rw [eTt3] at e_t3
        obtain ⟨v3, e_v3⟩ : ∃ y : Int32, t2.1 + (-1) = y := ⟨_, rfl⟩
        refine wi_iinc hC 0 v3 [(5, .int v3), (3, .long t3), (0, .ref 1), (1, .int a1), (2, .int a2)] d_Mem_bits_45 rfl (by rw [← e_v3]; rfl) (by decide) rfl ?_
        refine wi_goto hC 9 d_Mem_bits_48 (by decide) ?_
        exact hc_t2 (v3, t3) (by subst e_v3; subst e_t3; exact (if_neg h1))
      refine wi_if_lt hC 45 d_Mem_bits_17 (by decide) (fun h2 => ?_) (fun h2 => ?_)
      · skip
        exact Jt3 t2.2 (by exact (Eq.trans eTt3 (if_pos h2)))
      · skip
        refine wi_iload hC 0 d_Mem_bits_20 rfl ?_
        refine wi_bipush hC 94 (by decide) d_Mem_bits_22 ?_
        refine wi_icmp_ge hC 45 d_Mem_bits_24 (by decide) (fun h3 => ?_) (fun h3 => ?_)
        · skip
          exact Jt3 t2.2 (by exact (Eq.trans eTt3 (Eq.trans (if_neg h2) (if_pos h3))))
        · skip
          refine wi_lload_n hC 1 d_Mem_bits_27 rfl rfl ?_
          refine wi_bipush hC 8 (by decide) d_Mem_bits_28 ?_
          refine wi_lshl hC d_Mem_bits_30 ?_
          refine wi_aload_n hC 2 d_Mem_bits_31 rfl rfl ?_
          refine wg_Mem_bytes hC wd_0 d_Mem_bits_32 ?_
          refine wi_iload hC 0 d_Mem_bits_35 rfl ?_
          refine wa_ld2 hC (vin_of (lo_n h2) (hi_n h3 (by decide))) d_Mem_bits_37 ?_
          refine wi_sipush hC 255 (by decide) d_Mem_bits_38 ?_
          refine wi_iand hC d_Mem_bits_41 ?_
          refine wi_i2l hC d_Mem_bits_42 ?_
          refine wi_lor hC d_Mem_bits_43 ?_
          refine wi_nmJ (fun v2 e_v2 => ?_)
          refine wi_lstore_n hC [(3, .long v2), (5, .int t2.1), (0, .ref 1), (1, .int a1), (2, .int a2)] d_Mem_bits_44 rfl (by decide) rfl ?_
          refine wi_lv [1, 0, 2, 3, 4] [(5, .int t2.1), (3, .long v2), (0, .ref 1), (1, .int a1), (2, .int a2)] rfl ?_
          exact Jt3 v2 (by subst e_v2; exact (Eq.trans eTt3 (Eq.trans (if_neg h2) (if_neg h3))))
  obtain ⟨t1, e_t1⟩ : ∃ y : Int32 × Int64, lpn ((b_Mem_bits_9 σ a1)) (dbf a1 v1) (v1, 0) = y := ⟨_, rfl⟩
  rw [e_t1]
  refine wi_lload_n hC 1 d_Mem_bits_51 rfl rfl ?_
  have hf : f_Mem_bits σ a1 a2 = t1.2 := by subst e_t1; subst e_v1; exact rfl
  exact wi_lret hC hr hk d_Mem_bits_52 (congrArg (fun z => some (Value.long z)) hf) rfl hQ
theorem k_Mem_bits {p : Program} {l : Launch} {e : Env} {R : Room} {s : State} {m : MethodId} {args : Array Value} {below : List Frame} {meth : Method} {c : Code} {Q : State → Prop} {E : Ev} {nL pc index : Nat} {lv : List (Nat × Value)} {rest : List Value} {cc : ByteArray} {own : String} {σ τ : St} {q : Int64} {a1 : Int32} {a2 : Int32} (hC : Cx p s m args c cc nL own E)  (hp : -2147483648 < a1.toInt) (hl : Cond.methodLink own index y_Mem_bits ∈ WL) (hR : 0 + 1 ≤ R.frames ∧ 8 + (6 + 11) + 0 ≤ R.locals) (hs8 : (rest.map fun v => v.category).sum ≤ 8) (d : decode cc pc = .ok (.invokevirtual index, 3)) (k : WS p l e R s m args below meth c Q E nL (pc + 3) lv ((.long (f_Mem_bits σ a1 a2)) :: rest) (σ, τ, q)) : WS p l e R s m args below meth c Q E nL pc lv (.int a2 :: .int a1 :: .ref 1 :: rest) (σ, τ, q) := by
  exact wi_callV hC (n := 2) (vs := [.int a1, .int a2]) (rest := rest) 1 1 (by decide) rfl rfl rfl (c_Mem_bits l E σ τ q a1 a2 hp) (by decide +kernel) wd_5 wd_2 wd_6 wd_7 ⟨rfl, rfl⟩ rfl rfl hl hR hs8 d k
