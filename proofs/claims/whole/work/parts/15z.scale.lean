/-! the reference's scaling: a loop that counts up to a number and includes it -/
theorem ule_of {T : Type} {b : T → Bool × T} {C : T → Prop} {dC : ∀ t, Decidable (C t)} {F N : T → T} (hb : ∀ t, b t = @ite _ (C t) (dC t) (false, F t) (true, N t)) (cnt : T → Int32) (B : Int32) (hC : ∀ t, C t = (B < cnt t)) (hN : ∀ t, cnt (N t) = cnt t + 1) : ∀ t t1, b t = (true, t1) → ¬ B < cnt t ∧ cnt t1 = cnt t + 1 := by
  intro t t1 e
  obtain ⟨h1, h2⟩ := lp_form hb e
  rw [hC] at h1
  exact ⟨h1, by rw [h2, hN]⟩
theorem ule_halt {T : Type} {b : T → Bool × T} (cnt : T → Int32) (B : Int32) (hB : B.toInt ≤ 16384) (hs : ∀ t t1, b t = (true, t1) → ¬ B < cnt t ∧ cnt t1 = cnt t + 1) (t : T) : lph b (dbf (cnt t) B) t = true := by
  refine lph_mu b (fun _ => True) (fun t => (B.toInt - (cnt t).toInt + 1).toNat) (fun t t1 _ e => ?_) _ t trivial (by unfold dbf; omega)
  obtain ⟨h1, h2⟩ := hs t t1 e
  have h3 : ¬ B.toInt < (cnt t).toInt := fun q => h1 (Int32.lt_iff_toInt_lt.mpr q)
  have h4 := Int32.le_toInt (cnt t)
  have one : (1 : Int32).toInt = 1 := by decide
  have h5 : (cnt t1).toInt = (cnt t).toInt + 1 := by
    rw [h2, Int32.toInt_add, one, Int.bmod_eq_of_le (by omega) (by omega)]
  exact ⟨trivial, by omega⟩
theorem jrem15 (x : Int32) : -32767 ≤ (jrem x 32768).toInt ∧ (jrem x 32768).toInt ≤ 32767 := by
  have h1 := Int32.le_toInt x
  have h2 := Int32.toInt_lt x
  have e : (32768 : Int32).toInt = 32768 := by decide
  have d : (x / 32768).toInt = x.toInt.tdiv 32768 := by
    rw [Int32.toInt_div_of_ne_right x 32768 (by decide), e]
  have t1 : 0 ≤ x.toInt → x.toInt.tdiv 32768 = x.toInt / 32768 := fun h => Int.tdiv_eq_ediv_of_nonneg h
  have t2 : x.toInt < 0 → x.toInt.tdiv 32768 = -((-x.toInt) / 32768) := fun h => by
    have : x.toInt = -(-x.toInt) := by omega
    rw [this, Int.neg_tdiv, Int.tdiv_eq_ediv_of_nonneg (by omega)]
    simp
  have m : (x / 32768 * 32768).toInt = (x / 32768).toInt * 32768 := by
    rw [Int32.toInt_mul, e, d]
    by_cases c : 0 ≤ x.toInt
    · rw [t1 c, Int.bmod_eq_of_le (by omega) (by omega)]
    · rw [t2 (by omega), Int.bmod_eq_of_le (by omega) (by omega)]
  unfold jrem
  have s : (x - x / 32768 * 32768).toInt = x.toInt - (x / 32768).toInt * 32768 := by
    rw [Int32.toInt_sub, m, d]
    by_cases c : 0 ≤ x.toInt
    · rw [t1 c, Int.bmod_eq_of_le (by omega) (by omega)]
    · rw [t2 (by omega), Int.bmod_eq_of_le (by omega) (by omega)]
  rw [s, d]
  by_cases c : 0 ≤ x.toInt
  · rw [t1 c]
    omega
  · rw [t2 (by omega)]
    omega
theorem apart_inv {f0 : Int} (hf : -100000 ≤ f0 ∧ f0 ≤ 16384) : ∀ t : St, (∃ n : Nat, (gI t 35 42).toInt = f0 - n ∧ n ≤ 64 ∧ (0 < (gJ t 34 42).toInt → (2 : Int) ^ n ≤ (gJ t 34 42).toInt)) → ∃ n : Nat, (gI (b_MS_apart_22 t).2 35 42).toInt = f0 - n ∧ n ≤ 64 ∧ (0 < (gJ (b_MS_apart_22 t).2 34 42).toInt → (2 : Int) ^ n ≤ (gJ (b_MS_apart_22 t).2 34 42).toInt) := by
  intro t ⟨n, h1, h2, h3⟩
  unfold b_MS_apart_22
  by_cases c : gJ t 34 42 ≤ 0
  · rw [if_pos c]
    exact ⟨n, h1, h2, h3⟩
  · rw [if_neg c]
    have z : (0 : Int64).toInt = 0 := by decide
    have two : (2 : Int64).toInt = 2 := by decide
    have one : (1 : Int32).toInt = 1 := by decide
    have c2 : 0 < (gJ t 34 42).toInt := by
      rcases Int.lt_or_le 0 (gJ t 34 42).toInt with q | q
      · exact q
      · exact absurd (Int64.le_iff_toInt_le.mpr (by rw [z]; exact q)) c
    have h4 := h3 c2
    have h5 := Int64.toInt_lt (gJ t 34 42)
    have n62 : n < 63 := by
      rcases Nat.lt_or_ge n 63 with q | q
      · exact q
      · exfalso
        have : (2 : Nat) ^ 63 ≤ 2 ^ n := Nat.pow_le_pow_right (by decide) q
        have e : ((2 ^ n : Nat) : Int) = (2 : Int) ^ n := by simp
        rw [← e] at h4
        omega
    refine ⟨n + 1, ?_, by omega, fun q => ?_⟩
    · show (gI (sI (sJ t 34 42 _) 35 42 (gI (sJ t 34 42 _) 35 42 - 1)) 35 42).toInt = _
      rw [gI_sI, if_pos rfl, if_pos rfl, gI_sJ, Int32.toInt_sub, one, h1, Int.bmod_eq_of_le (by omega) (by omega)]
      omega
    · have g : gJ (sI (sJ t 34 42 (2 * gJ t 34 42)) 35 42 (gI (sJ t 34 42 (2 * gJ t 34 42)) 35 42 - 1)) 34 42 = 2 * gJ t 34 42 := by
        rw [gJ_sI, gJ_sJ, if_pos rfl, if_pos rfl]
      have q2 : 0 < (gJ (sI (sJ t 34 42 (2 * gJ t 34 42)) 35 42 (gI (sJ t 34 42 (2 * gJ t 34 42)) 35 42 - 1)) 34 42).toInt := q
      show (2 : Int) ^ (n + 1) ≤ (gJ (sI (sJ t 34 42 (2 * gJ t 34 42)) 35 42 (gI (sJ t 34 42 (2 * gJ t 34 42)) 35 42 - 1)) 34 42).toInt
      rw [g, Int64.toInt_mul, two] at q2
      rw [g, Int64.toInt_mul, two]
      have p : (2 : Int) ^ (n + 1) = 2 * 2 ^ n := by rw [Int.pow_succ, Int.mul_comm]
      generalize (gJ t 34 42).toInt = v at *
      generalize (2 : Int) ^ n = w at *
      rw [p]
      have b : 2 * v < 9223372036854775808 ∨ 9223372036854775808 ≤ 2 * v := by omega
      rcases b with b | b
      · rw [Int.bmod_eq_of_le (by omega) (by omega)]
        omega
      · exfalso
        have e : (2 * v).bmod (2 ^ 64) = 2 * v - 18446744073709551616 := by
          have m : (2 * v) % ((2 ^ 64 : Nat) : Int) = 2 * v := Int.emod_eq_of_lt (by omega) (by omega)
          unfold Int.bmod
          simp only [m]
          rw [if_neg (by omega)]
          rfl
        rw [e] at q2
        omega
theorem apart_le (τ : St) (a : Int32) : (gI (f_MS_apart τ a) 35 42).toInt ≤ 16384 := by
  have e16 : (16446 : Int32).toInt = 16446 := by decide
  have e63 : (63 : Int32).toInt = 63 := by decide
  have e1 : (1 : Int32).toInt = 1 := by decide
  have j := jrem15 (gI (sJ τ 34 42 (gJ τ 111 (jat a))) 110 (jat a))
  have u : -50000 ≤ (f_MS_unit (sJ τ 34 42 (gJ τ 111 (jat a))) a + 63).toInt ∧ (f_MS_unit (sJ τ 34 42 (gJ τ 111 (jat a))) a + 63).toInt ≤ 16384 := by
    unfold f_MS_unit
    generalize jrem (gI (sJ τ 34 42 (gJ τ 111 (jat a))) 110 (jat a)) 32768 = q at *
    by_cases c : q = 0
    · simp only [c, if_true]
      decide
    · simp only [c, if_false]
      have s : (q - 16446).toInt = q.toInt - 16446 := by
        rw [Int32.toInt_sub, e16, Int.bmod_eq_of_le (by omega) (by omega)]
      rw [Int32.toInt_add, s, e63, Int.bmod_eq_of_le (by omega) (by omega)]
      omega
  unfold f_MS_apart
  have key := lpn_ind (b := b_MS_apart_22) (fun t => ∃ n : Nat, (gI t 35 42).toInt = (f_MS_unit (sJ τ 34 42 (gJ τ 111 (jat a))) a + 63).toInt - n ∧ n ≤ 64 ∧ (0 < (gJ t 34 42).toInt → (2 : Int) ^ n ≤ (gJ t 34 42).toInt)) (apart_inv (by omega)) (dblf (gJ (sI (sJ τ 34 42 (gJ τ 111 (jat a))) 35 42 (f_MS_unit (sJ τ 34 42 (gJ τ 111 (jat a))) a + 63)) 34 42)) (sI (sJ τ 34 42 (gJ τ 111 (jat a))) 35 42 (f_MS_unit (sJ τ 34 42 (gJ τ 111 (jat a))) a + 63)) ⟨0, by rw [gI_sI, if_pos rfl, if_pos rfl]; simp, by decide, fun q => by simp; omega⟩
  obtain ⟨n, k1, -, -⟩ := key
  simp only [] at k1 ⊢
  rw [k1]
  omega
