/-! the class: decimals and floating numbers written -/
theorem uN_of_toInt {x : Int64} {q : Nat} (h : x.toInt = q) : uN x = q := by
  have e := uN_int x
  have b := uN_lt x
  rw [h] at e
  split at e <;> omega
theorem ldiv_n {v y : Int64} {d : Nat} (h : uN v < 9223372036854775808) (hy : y.toInt = d) (hd : 0 < d) : uN (v / y) = uN v / d ∧ uN (jlrem v y) = uN v % d := by
  have hv := uN_int v
  rw [if_pos (by omega)] at hv
  have hy1 : y ≠ -1 := fun e => by
    rw [e] at hy
    have : (-1 : Int64).toInt = -1 := by decide
    omega
  have d1 : (v / y).toInt = ((uN v / d : Nat) : Int) := by
    rw [Int64.toInt_div_of_ne_right v y hy1, hv, hy]
    rfl
  have md : uN v / d * d + uN v % d = uN v := Nat.div_add_mod' _ _
  have m : (v / y * y).toInt = ((uN v / d * d : Nat) : Int) := by
    rw [Int64.toInt_mul, d1, hy, ← Int.natCast_mul]
    generalize uN v / d * d = q at *
    rw [Int.bmod_eq_of_le (by omega) (by omega)]
  have j : (jlrem v y).toInt = ((uN v % d : Nat) : Int) := by
    unfold jlrem
    rw [Int64.toInt_sub, m, hv]
    generalize uN v / d * d = q at *
    generalize uN v % d = r at *
    rw [Int.bmod_eq_of_le (by omega) (by omega)]
    omega
  exact ⟨uN_of_toInt d1, uN_of_toInt j⟩
theorem dec_two {L : Int64} {X : Nat} (hL : uN L = X) (hX : X < 9223372036854775808) : Int64.toInt32 (jlrem L 100) = nI (X % 100) ∧ uN (L / 100) = X / 100 := by
  obtain ⟨a, b⟩ := ldiv_n (v := L) (y := 100) (d := 100) (by omega) (by decide) (by decide)
  rw [hL] at a b
  refine ⟨?_, a⟩
  rw [i32_of_l (by rw [b]; omega), b]
theorem dec_byte {x : Nat} (hx : x < 100) : uN (Int32.toInt64 (jshl (nI x / 10) 4 ||| jrem (nI x) 10)) = x / 10 * 2 ^ 4 + x % 10 := by
  have e1 : nI x / 10 = nI (x / 10) := pk_div (d := 10) (by omega) (by decide) (by decide)
  have e2 : jrem (nI x) 10 = nI (x % 10) := pk_rem (d := 10) (by omega) (by decide) (by decide)
  have e3 : jshl (nI (x / 10)) 4 = nI (x / 10 * 2 ^ 4) := pk_shlN _ 4 (by decide) (by omega)
  rw [e1, e2, e3, nI_or _ _ (by omega) (by omega), or_add (k := 4) (by omega), uN_nI (by omega)]
theorem decB_put {m : Nat → Nat} {K : Nat} {mi : Bool} {i : Nat} (hi : i < 9) : putm (newB m i (decB K mi)) i 1 (K / 100 ^ i % 100 / 10 * 2 ^ 4 + K / 100 ^ i % 100 % 10) = newB m (i + 1) (decB K mi) := by
  have e100 : (100 : Nat) ^ i = 10 ^ (2 * i) := by rw [Nat.pow_mul]
  funext k
  unfold putm newB
  by_cases c : k < i
  · rw [if_neg (by omega), if_pos c, if_pos (by omega)]
  · by_cases c2 : k = i
    · subst c2
      rw [if_pos ⟨by omega, by omega⟩, if_pos (by omega), Nat.sub_self, Nat.pow_zero, Nat.div_one, e100]
      unfold decB
      have e10 : K / 10 ^ (2 * k + 1) = K / 10 ^ (2 * k) / 10 := by rw [Nat.pow_succ, Nat.div_div_eq_div_mul]
      rw [if_pos hi, e10]
      generalize K / 10 ^ (2 * k) = X
      have h1 : X % 100 / 10 = X / 10 % 10 := by omega
      have h2 : X % 100 % 10 = X % 10 := by omega
      have l1 : X / 10 % 10 < 10 := Nat.mod_lt _ (by decide)
      have l2 : X % 10 < 10 := Nat.mod_lt _ (by decide)
      rw [h1, h2]
      generalize X / 10 % 10 = u at *
      generalize X % 10 = v at *
      clear h1 h2
      omega
    · rw [if_neg (by omega), if_neg c, if_neg (by omega)]
theorem dec_loop {s : St} {m : Nat → Nat} {K : Nat} {v : Int64} (mi : Bool) (hM : MB s m) (hv : uN v = K) (hK : K < 1000000000000000000) : fr100 s (lpn b_Wr_writeDecimals_125 (upf 9 0) (0, v, s)).2.2 ∧ MB (lpn b_Wr_writeDecimals_125 (upf 9 0) (0, v, s)).2.2 (newB m 9 (decB K mi)) := by
  refine lpn_P (b := b_Wr_writeDecimals_125) (fun i t => t.1 = nI i ∧ uN t.2.1 = K / 100 ^ i ∧ fr100 s t.2.2 ∧ MB t.2.2 (newB m i (decB K mi))) (fun y => fr100 s y.2.2 ∧ MB y.2.2 (newB m 9 (decB K mi))) 9 ?_ ?_ ?_ ?_
  · intro i t hi ⟨t1, t2, t3, t4⟩
    obtain ⟨a, L, s1⟩ := t
    simp only at t1 t2 t3 t4
    subst t1
    have c1 : ¬ (9 : Int32) ≤ nI i := nI_ge (b := 9) (by omega) (by decide)
    have kl : K / 100 ^ i ≤ K := Nat.div_le_self _ _
    obtain ⟨d1, d2⟩ := dec_two t2 (by omega)
    have xl : K / 100 ^ i % 100 < 100 := Nat.mod_lt _ (by decide)
    obtain ⟨p1, p2⟩ := put_at t4 i 1 (F := nI i) (N := 1) rfl rfl (Int32.toInt64 (jshl (nI (K / 100 ^ i % 100) / 10) 4 ||| jrem (nI (K / 100 ^ i % 100)) 10)) (by decide) (by omega)
    rw [dec_byte xl, decB_put hi] at p1
    refine ⟨(nI (i + 1), L / 100, f_Mem_put s1 (nI i) 1 (Int32.toInt64 (jshl (nI (K / 100 ^ i % 100) / 10) 4 ||| jrem (nI (K / 100 ^ i % 100)) 10))), ?_, rfl, ?_, fr100_trans t3 p2, p1⟩
    · unfold b_Wr_writeDecimals_125
      simp only [c1, if_false, d1, nI_1]
    · show uN (L / 100) = _
      rw [d2, Nat.pow_succ, Nat.div_div_eq_div_mul]
  · intro t ⟨t1, t2, t3, t4⟩
    obtain ⟨a, L, s1⟩ := t
    simp only at t1 t2 t3 t4
    subst t1
    refine ⟨(nI 9, L, s1), ?_, t3, t4⟩
    have c1 : (9 : Int32) ≤ nI 9 := by decide
    unfold b_Wr_writeDecimals_125
    simp only [c1, if_true]
  · decide
  · refine ⟨rfl, ?_, fr100_refl s, ?_⟩
    · show uN v = K / 100 ^ 0
      rw [hv, Nat.pow_zero, Nat.div_one]
    · have : newB m 0 (decB K mi) = m := by
        funext k
        unfold newB
        rw [if_neg (by omega)]
      show MB s (newB m 0 (decB K mi))
      rw [this]
      exact hM
theorem dec_sign {m : Nat → Nat} {K : Nat} {mi : Bool} : putm (newB m 9 (decB K mi)) 9 1 (if mi = true then 128 else 0) = newB m 10 (decB K mi) := by
  funext k
  unfold putm newB
  by_cases c : k < 9
  · rw [if_neg (by omega), if_pos c, if_pos (by omega)]
  · by_cases c2 : k = 9
    · subst c2
      unfold decB
      cases mi <;> rfl
    · rw [if_neg (by omega), if_neg c, if_neg (by omega)]
