/-! the reference's scaling -/
theorem shl_nn (v : Int64) {i : Nat} (hi : i < 64) : (0 ≤ jlshl v (nI i)) ↔ uN v / 2 ^ (63 - i) % 2 = 0 := by
  rw [uN_nn, uN_jlshl v i rfl hi]
  have e : uN v * 2 ^ i % 18446744073709551616 = uN v % 2 ^ (64 - i) * 2 ^ i := mod_mul_pow (uN v) i 64 (by omega)
  rw [e]
  obtain ⟨M, hM⟩ : ∃ M : Nat, M = 2 ^ (63 - i) := ⟨_, rfl⟩
  have e2 : (2 : Nat) ^ (64 - i) = M * 2 := by rw [hM, ← Nat.pow_succ]; congr 1; omega
  have e3 : 9223372036854775808 = M * 2 ^ i := by
    rw [hM, ← Nat.pow_add]
    have : 63 - i + i = 63 := by omega
    rw [this]
  rw [e2, e3, ← hM]
  have mp : 0 < M := by rw [hM]; exact pow_pos2 _
  have lt : uN v % (M * 2) * 2 ^ i < M * 2 ^ i ↔ uN v % (M * 2) < M := ⟨fun h => Nat.lt_of_mul_lt_mul_right h, fun h => Nat.mul_lt_mul_of_pos_right h (pow_pos2 i)⟩
  rw [lt, Nat.mod_mul]
  have r := Nat.mod_lt (uN v) mp
  have q := Nat.mod_two_eq_zero_or_one (uN v / M)
  rcases q with q | q
  · rw [q]
    simp
    exact r
  · rw [q]
    simp
theorem two_nI {a : Nat} {b : Bool} (h : a < 536870912) : 2 * nI a + bI b = nI (2 * a + b.toNat) := by
  have e2 : (2 : Int32).toInt = 2 := by decide
  have eb : (bI b).toInt = b.toNat := by cases b <;> rfl
  have bl : b.toNat ≤ 1 := by cases b <;> decide
  have m : (2 * nI a).toInt = 2 * (a : Int) := by
    rw [Int32.toInt_mul, e2, nI_toInt (by omega), Int.bmod_eq_of_le (by omega) (by omega)]
  apply Int32.toInt_inj.mp
  rw [i32_addT (by omega) (by omega), m, eb, nI_toInt (by omega)]
  omega
theorem sc_loop {s : St} {v : Int64} {k : Nat} (g34 : gJ s 34 42 = v) (g35 : gI s 35 42 = nI k) (hk : k < 14) : (lpn (b_MS_scale_151 s) (dbf 0 (gI s 35 42)) (0, 0)).2 = nI (uN v / 2 ^ (63 - k)) := by
  have bv := uN_lt2 v
  refine lpn_P (b := b_MS_scale_151 s) (fun i t => t = (nI i, nI (uN v / 2 ^ (64 - i)))) (fun y => y.2 = nI (uN v / 2 ^ (63 - k))) (k + 1) ?_ ?_ ?_ ?_
  · intro i t hi et
    subst et
    refine ⟨_, ?_, rfl⟩
    have c : ¬ nI k < nI i := by
      intro q
      have := (nI_ltI (a := k) (b := i) (by omega) (by omega)).mp q
      omega
    have q2 : uN v / 2 ^ (64 - i) = uN v / 2 ^ (63 - i) / 2 := by
      rw [Nat.div_div_eq_div_mul, ← Nat.pow_succ]
      congr 2
      omega
    have lt : uN v / 2 ^ (64 - i) < 536870912 := by
      rw [Nat.div_lt_iff_lt_mul (pow_pos2 _)]
      have : (2 : Nat) ^ 64 ≤ 536870912 * 2 ^ (64 - i) := by
        rw [show 536870912 = 2 ^ 29 by decide, ← Nat.pow_add]
        exact Nat.pow_le_pow_right (by decide) (by omega)
      omega
    have e64 : 64 - (i + 1) = 63 - i := by omega
    unfold b_MS_scale_151
    simp only [g35, c, if_false, g34, shl_nn v (show i < 64 by omega)]
    have t9 : (if uN v / 2 ^ (63 - i) % 2 = 0 then false else true) = decide (uN v / 2 ^ (63 - i) % 2 = 1) := by
      rcases Nat.mod_two_eq_zero_or_one (uN v / 2 ^ (63 - i)) with q | q <;> rw [q] <;> rfl
    rw [t9, two_nI lt, nI_1, e64, q2]
    have : 2 * (uN v / 2 ^ (63 - i) / 2) + (decide (uN v / 2 ^ (63 - i) % 2 = 1)).toNat = uN v / 2 ^ (63 - i) := by
      rcases Nat.mod_two_eq_zero_or_one (uN v / 2 ^ (63 - i)) with q | q <;> rw [q] <;> simp <;> omega
    rw [this]
  · intro t et
    subst et
    refine ⟨(nI (k + 1), nI (uN v / 2 ^ (64 - (k + 1)))), ?_, ?_⟩
    · have c : nI k < nI (k + 1) := (nI_ltI (a := k) (b := k + 1) (by omega) (by omega)).mpr (by omega)
      unfold b_MS_scale_151
      simp only [g35, c, if_true]
    · have : 64 - (k + 1) = 63 - k := by omega
      rw [this]
  · unfold dbf
    have e1 : (nI k).toInt = k := nI_toInt (by omega)
    have e2 : (0 : Int32).toInt = 0 := rfl
    rw [g35, e1, e2]
    omega
  · have : uN v / 2 ^ (64 - 0) = 0 := Nat.div_eq_of_lt bv
    rw [this]
    rfl
theorem sc_loop0 {s : St} (h : gI s 35 42 < 0) : (lpn (b_MS_scale_151 s) (dbf 0 (gI s 35 42)) (0, 0)).2 = 0 := by
  have : ∃ m, dbf 0 (gI s 35 42) = m + 1 := ⟨_, rfl⟩
  obtain ⟨m, hm⟩ := this
  rw [hm]
  simp only [lpn, b_MS_scale_151, h, if_true]
theorem apart_fr {τ : St} (v : Int64) (f : Int32) : frT τ (sI (sJ τ 34 42 v) 35 42 f) := frT_trans (frT_J _ 34 42 _ (by decide)) (frT_I _ 35 42 _ (by decide))
theorem apart_log {τ : St} {a : Int32} {i : Nat} {A : Re} (ja : jat a = i) (h : RegIs τ 110 111 i A) (h0 : A.2.2 ≠ 0) : ∃ (v : Int64) (f : Int32), f_MS_apart τ a = sI (sJ τ 34 42 v) 35 42 f ∧ uN v = A.2.2 * 2 ^ (63 - A.2.2.log2) ∧ 2 ^ 63 ≤ uN v ∧ f.toInt = unitN A.2.1 + A.2.2.log2 ∧ A.2.2.log2 < 64 := by
  obtain ⟨v, f, j, c1, c2, c3, c4, c5⟩ := apart_M ja h h0
  have b := uN_lt2 v
  have c4' := c4
  rw [c3] at c4' b
  have lg := norm_log c2 c4' b
  have ej : 63 - A.2.2.log2 = j := by omega
  exact ⟨v, f, c1, by rw [ej]; exact c3, c4, by omega, by omega⟩
theorem scale_M {τ : St} {w : Nat} {A B : Re} (hA : RegIs τ 110 111 0 A) (hB : RegIs τ 110 111 1 B) (hwd : gI τ 27 42 = nI w) (hw : w < 65536) : KOut τ (f_MS_scale τ 0 1 2) w 2 (scaleS w A B) := by
  have z2 : (2 : Int32) = nI 2 := rfl
  have j0 : jat 0 = 0 := by decide
  have j1 : jat 1 = 1 := by decide
  have n0 : f_MS_none 0 = false := by decide
  have n1 : f_MS_none 1 = false := by decide
  have n2 : f_MS_none 2 = false := by decide
  obtain ⟨b1, b2, b3, b4, b5⟩ := begin_S hwd
  have hA2 := RegIs_keys hA b5
  have hB2 := RegIs_keys hB b5
  have e0 : bI false = (0 : Int32) := rfl
  have g26 : gI (sI τ 26 42 0) 26 42 ≤ 0 := by
    rw [gI_sI, if_pos rfl, if_pos rfl]
    decide
  have goal : ∀ t2 : St, SOut (f_MS_begin (sI τ 26 42 0)) t2 w (scaleS w A B) → KOut τ (gI (f_MS_keep t2 2) 28 42, f_MS_keep t2 2) w 2 (scaleS w A B) := fun t2 h => by
    rw [z2]
    exact keep_S (by decide) b1 h
  unfold f_MS_scale
  simp only [n0, n1, n2, Bool.false_eq_true, if_false, e0, g26, if_true]
  generalize f_MS_begin (sI τ 26 42 0) = s at *
  apply goal
  have er := unitN_rng hB.2.2
  have era := unitN_rng hA.2.2
  have bF := uN_lt2 (gJ τ 111 1)
  rw [hB.2.1] at bF
  -- whether it can be
  have k4 : ((4 : Int32) ≤ f_MS_kind s 1) ↔ B.2.1 = 32767 := by
    rw [skind_M j1 hB2, show (4 : Int32) = nI 4 from rfl, nI_leI (by decide) (kind_lt _ _)]
    unfold kindN
    by_cases p : B.2.1 = 32767
    · by_cases q : B.2.2 % 9223372036854775808 = 0 <;> simp [p, q]
    · simp only [p, if_false, iff_false]
      (repeat' split) <;> omega
  obtain ⟨s', hs', f', t28, t29⟩ : ∃ s' : St, (if (if (4 : Int32) ≤ f_MS_kind s 1 then false else true) = true then if f_MS_nothing s 1 = true then ((if (4 : Int32) ≤ f_MS_kind s 1 then false else true), s) else ((if 14 ≤ gI (f_MS_apart s 1) 35 42 then false else true), f_MS_apart s 1) else ((if (4 : Int32) ≤ f_MS_kind s 1 then false else true), s)) = (!scaleC B, s') ∧ frT s s' ∧ gI s' 28 42 = nI 0 ∧ gZ s' 29 42 = false := by
    simp only [k4, snothing_M j1 hB2]
    by_cases p : B.2.1 = 32767
    · refine ⟨s, ?_, frT_refl _, b3, b4⟩
      unfold scaleC
      simp [p]
    · by_cases z : B.2.2 = 0
      · refine ⟨s, ?_, frT_refl _, b3, b4⟩
        unfold scaleC isNil
        simp [p, z]
      · obtain ⟨v, f, c1, c2, c3, c4, c5⟩ := apart_log j1 hB2 z
        have g35 : gI (sI (sJ s 34 42 v) 35 42 f) 35 42 = f := by simp [gI_sI]
        have c14 : ((14 : Int32) ≤ f) ↔ 14 ≤ unitN B.2.1 + (B.2.2.log2 : Int) := by
          rw [Int32.le_iff_toInt_le, c4, show (14 : Int32).toInt = 14 by decide]
        refine ⟨sI (sJ s 34 42 v) 35 42 f, ?_, apart_fr v f, ?_, b4⟩
        · unfold scaleC isNil
          simp only [c1, g35, c14]
          by_cases q : (14 : Int) ≤ unitN B.2.1 + (B.2.2.log2 : Int) <;> simp [p, z, q]
        · rw [gI_sI, if_neg (by decide)]
          exact b3
  simp only [hs']
  have hA3 := RegIs_T hA2 f'
  have hB3 := RegIs_T hB2 f'
  have wd3 : gI s' 27 42 = nI w := by rw [(f' 27 42 (by decide)).1]; exact b2
  unfold scaleS
  have nn : (!!scaleC B) = scaleC B := by cases scaleC B <;> rfl
  rcases goes_2 (can := !scaleC B) j0 j1 (by decide) hA3 hB3 wd3 hw t28 t29 with ⟨R, ρ, e1, e2, e3⟩ | ⟨ρ, e1, e2, e3, e4, e5⟩
  · rw [nn] at e1
    rw [e1, e2]
    simp only [Bool.false_eq_true, if_false]
    exact ⟨frT_trans f' e3.1, e3.2⟩
  · rw [nn] at e1
    rw [e1, e2]
    simp only [if_true]
    show SOut s _ w (if isInf A.2.1 A.2.2 then _ else _)
    obtain ⟨-, hc, d2, en⟩ := setS_none e1
    have rA := RegIs_T hA3 e3
    have rB := RegIs_T hB3 e3
    have fr := frT_trans f' e3
    have wd : gI ρ 27 42 = nI w := by rw [(e3 27 42 (by decide)).1]; exact wd3
    have dl : denS A B < 64 := by omega
    have nlt := scaleN_lt bF hc
    simp only [sinf_M j0 rA]
    by_cases hi : isInf A.2.1 A.2.2 = true
    · rw [if_pos hi, if_pos hi]
      have r1 : gI ρ 110 (jat 0) = sgT A.1 + nI A.2.1 := by rw [j0, rA.1]; exact top_sg A
      rw [r1]
      exact SOut_ans (P := (A.2.1 : Int)) fr e4 dl en (nI_toInt (by have := rA.2.2; omega)) (by rw [j0]; exact rA.2.1)
    · rw [if_neg hi, if_neg hi]
      have p : ¬ B.2.1 = 32767 := fun q => by
        unfold scaleC at hc
        simp [q] at hc
      obtain ⟨s4, h4, f4, t4⟩ : ∃ s4 : St, (if f_MS_nothing ρ 1 = true then ((0 : Int32), ρ) else ((lpn (b_MS_scale_151 (f_MS_apart ρ 1)) (dbf 0 (gI (f_MS_apart ρ 1) 35 42)) (0, 0)).2, f_MS_apart ρ 1)) = (nI (scaleN B), s4) ∧ frT ρ s4 ∧ gI s4 28 42 = nI (denS A B) := by
        rw [snothing_M j1 rB]
        by_cases z : B.2.2 = 0
        · have n0 : isNil B.2.1 B.2.2 = true := by unfold isNil; simp [p, z]
          have e : scaleN B = 0 := by unfold scaleN; rw [if_pos z]
          rw [if_pos n0, e]
          exact ⟨ρ, rfl, frT_refl _, e4⟩
        · have n0 : ¬ isNil B.2.1 B.2.2 = true := by unfold isNil; simp [z]
          rw [if_neg n0]
          obtain ⟨v, f, c1, c2, c3, c4, c5⟩ := apart_log j1 rB z
          rw [c1]
          have g35 : gI (sI (sJ ρ 34 42 v) 35 42 f) 35 42 = f := by simp [gI_sI]
          have g34 : gJ (sI (sJ ρ 34 42 v) 35 42 f) 34 42 = v := by simp [gJ_sI, gJ_sJ]
          refine ⟨sI (sJ ρ 34 42 v) 35 42 f, ?_, apart_fr v f, by rw [gI_sI, if_neg (by decide)]; exact e4⟩
          have c14 : ¬ 14 ≤ unitN B.2.1 + (B.2.2.log2 : Int) := by
            intro q
            unfold scaleC at hc
            simp [z, q] at hc
          by_cases n : unitN B.2.1 + (B.2.2.log2 : Int) < 0
          · have e : scaleN B = 0 := by unfold scaleN; rw [if_neg z, if_pos n]
            have fl : f < 0 := by
              rw [Int32.lt_iff_toInt_lt, c4]
              exact n
            rw [sc_loop0 (by rw [g35]; exact fl), e]
            rfl
          · obtain ⟨k, hk⟩ : ∃ k : Nat, unitN B.2.1 + (B.2.2.log2 : Int) = k := ⟨(unitN B.2.1 + (B.2.2.log2 : Int)).toNat, by omega⟩
            have ek : f = nI k := by
              apply Int32.toInt_inj.mp
              rw [c4, nI_toInt (by omega), hk]
            have e : (63 - (unitN B.2.1 + (B.2.2.log2 : Int))).toNat = 63 - k := by omega
            rw [sc_loop g34 (by rw [g35]; exact ek) (by omega), c2]
            unfold scaleN
            rw [if_neg z, if_neg n, e]
      rw [h4]
      simp only []
      have rA4 := RegIs_T rA f4
      have rB4 := RegIs_T rB f4
      have wd4 : gI s4 27 42 = nI w := by rw [(f4 27 42 (by decide)).1]; exact wd
      have su := sunit_M j0 rA4
      rw [sminus_M j0 rA4, sminus_M j1 rB4]
      have sn := sgn_n (m := B.1) (n := scaleN B) (by omega)
      generalize (if B.1 = true then -nI (scaleN B) else nI (scaleN B)) = v at *
      have bd : -16384 ≤ v.toInt ∧ v.toInt ≤ 16384 := by
        rw [sn]
        split <;> omega
      have hU : (f_MS_unit s4 0 + v).toInt = scaleE A B := by
        unfold scaleE
        rw [i32_addT (by omega) (by omega), su, sn]
      refine SOut_make (frT_trans fr f4) wd4 hw t4 dl en hU ?_ ?_
      · unfold scaleE
        rw [← sn]
        omega
      · rw [j0, rA4.2.1]
