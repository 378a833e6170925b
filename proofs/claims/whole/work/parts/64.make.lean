/-! what the class makes of a size -/
theorem ntb (n i : Nat) : n.testBit i = decide (n / 2 ^ i % 2 = 1) := Nat.testBit_eq_decide_div_mod_eq
theorem nI_and (a b : Nat) (ha : a < 2 ^ 32) (hb : b < 2 ^ 32) : nI a &&& nI b = nI (a &&& b) := by
  apply Int32.toBitVec_inj.mp
  rw [Int32.toBitVec_and]
  show BitVec.ofNat 32 a &&& BitVec.ofNat 32 b = BitVec.ofNat 32 (a &&& b)
  apply BitVec.eq_of_toNat_eq
  rw [BitVec.toNat_and, BitVec.toNat_ofNat, BitVec.toNat_ofNat, BitVec.toNat_ofNat, Nat.mod_eq_of_lt ha, Nat.mod_eq_of_lt hb, Nat.mod_eq_of_lt]
  exact Nat.lt_of_le_of_lt Nat.and_le_left ha
theorem nI_or (a b : Nat) (ha : a < 2 ^ 32) (hb : b < 2 ^ 32) : nI a ||| nI b = nI (a ||| b) := by
  apply Int32.toBitVec_inj.mp
  rw [Int32.toBitVec_or]
  show BitVec.ofNat 32 a ||| BitVec.ofNat 32 b = BitVec.ofNat 32 (a ||| b)
  apply BitVec.eq_of_toNat_eq
  rw [BitVec.toNat_or, BitVec.toNat_ofNat, BitVec.toNat_ofNat, BitVec.toNat_ofNat, Nat.mod_eq_of_lt ha, Nat.mod_eq_of_lt hb, Nat.mod_eq_of_lt]
  exact Nat.or_lt_two_pow ha hb
theorem nI_eq0 {a : Nat} (ha : a < 2 ^ 31) : nI a = 0 ↔ a = 0 := nI_eq (b := 0) ha (by decide)
theorem and_pow0 (w i : Nat) : (w &&& 2 ^ i = 0) ↔ w.testBit i = false := by
  constructor
  · intro h
    have h2 := congrArg (fun z => Nat.testBit z i) h
    simpa [Nat.testBit_and, Nat.testBit_two_pow_self] using h2
  · intro h
    apply Nat.eq_of_testBit_eq
    intro j
    rw [Nat.testBit_and, Nat.testBit_two_pow]
    by_cases e : i = j
    · subst e
      simp [h]
    · simp [e]
theorem nI_bit {w i : Nat} (hw : w < 65536) (hi : i < 16) : nI w &&& nI (2 ^ i) = 0 ↔ ¬ w / 2 ^ i % 2 = 1 := by
  have h2 : 2 ^ i < 2 ^ 16 := Nat.pow_lt_pow_right (by decide) hi
  rw [nI_and _ _ (by omega) (by omega), nI_eq0 (Nat.lt_of_le_of_lt Nat.and_le_left (by omega)), and_pow0, ntb]
  simp
theorem masks_eq {σ : St} {w : Nat} (hs : gI σ 6 3 = nI w) (hw : w < 65536) (i : Nat) (hi : i < 16) : f_Ctl_masks σ (nI (2 ^ i)) = decide (w / 2 ^ i % 2 = 1) := by
  unfold f_Ctl_masks
  simp only [hs, nI_bit hw hi]
  by_cases h : w / 2 ^ i % 2 = 1 <;> simp [h]
theorem masks16 {σ : St} {w : Nat} (hs : gI σ 6 3 = nI w) (hw : w < 65536) : f_Ctl_masks σ 16 = decide (w / 16 % 2 = 1) := masks_eq hs hw 4 (by decide)
theorem masks8 {σ : St} {w : Nat} (hs : gI σ 6 3 = nI w) (hw : w < 65536) : f_Ctl_masks σ 8 = decide (w / 8 % 2 = 1) := masks_eq hs hw 3 (by decide)
theorem shrN {w : Nat} (hw : w < 2 ^ 31) (k : Nat) {y : Int32} (hy : ((y &&& 31).toBitVec.smod 32).toNat = k) : jshr (nI w) y = nI (w / 2 ^ k) := by
  unfold jshr
  exact pk_shrN hw _ k hy
theorem rounding_eq {σ : St} {w : Nat} (hs : gI σ 6 3 = nI w) (hw : w < 65536) : f_Ctl_rounding σ = nI (wayOf w) := by
  unfold f_Ctl_rounding wayOf
  rw [hs, shrN (by omega) 10 (by decide), pk_andN (by omega) 2 (by decide)]
theorem digits_eq {σ : St} {w : Nat} (hs : gI σ 6 3 = nI w) (hw : w < 65536) : f_Ctl_digits σ = nI (digitsOf w) := by
  unfold f_Ctl_digits digitsOf
  rw [hs, shrN (by omega) 8 (by decide), pk_andN (by omega) 2 (by decide)]
  have h4 : w / 256 % 4 = 0 ∨ w / 256 % 4 = 1 ∨ w / 256 % 4 = 2 ∨ w / 256 % 4 = 3 := by omega
  show (let v1 : Int32 := nI (w / 256 % 4); if v1 = 0 then 24 else let t1 : Int32 := if v1 = 2 then 53 else 64; t1) = _
  rcases h4 with h | h | h | h <;> rw [h] <;> decide
theorem wayOf_lt (w : Nat) : wayOf w < 4 := by unfold wayOf; omega
theorem infin_eq {σ : St} {w : Nat} (hs : gI σ 6 3 = nI w) (hw : w < 65536) (m : Bool) : f_Ctl_overBecomesInfinite σ m = infS (wayOf w) m := by
  unfold f_Ctl_overBecomesInfinite infS
  rw [rounding_eq hs hw]
  have h4 : wayOf w = 0 ∨ wayOf w = 1 ∨ wayOf w = 2 ∨ wayOf w = 3 := by have := wayOf_lt w; omega
  rcases h4 with h | h | h | h <;> rw [h] <;> cases m <;> decide
theorem tell_tell (σ : St) (a b : Int32) : f_Ctl_tell (f_Ctl_tell σ a) b = f_Ctl_tell σ (a ||| b) := by
  unfold f_Ctl_tell
  simp only []
  rw [sI_sI]
  have : gI (sI σ 7 3 (gI σ 7 3 ||| a)) 7 3 = gI σ 7 3 ||| a := by simp [gI_sI]
  rw [this, Int32.or_assoc]
theorem tell_0 (σ : St) : f_Ctl_tell σ 0 = σ := by
  unfold f_Ctl_tell
  simp only []
  have : gI σ 7 3 ||| 0 = gI σ 7 3 := Int32.or_zero
  rw [this]
  apply St_ext <;> intro k x <;> simp only [gI_sI, gJ_sI, gZ_sI] <;> grind
theorem tell_6 (σ : St) (a : Int32) : gI (f_Ctl_tell σ a) 6 3 = gI σ 6 3 := rfl
theorem tell_13 (σ : St) (a : Int32) (o : Nat) : gZ (f_Ctl_tell σ a) 13 o = gZ σ 13 o := rfl
/-- sizes of what is kept -/
theorem rnd_le (way : Nat) (m : Bool) (x : Nat × Bool × Bool) : x.1 ≤ rnd way m x ∧ rnd way m x ≤ x.1 + 1 := by
  unfold rnd
  cases upS way m x <;> simp
theorem N128 {h l : Nat} (h1 : 2 ^ 63 ≤ h) (h2 : h < 2 ^ 64) (hl : l < 2 ^ 64) : 2 ^ 127 ≤ h * 2 ^ 64 + l ∧ h * 2 ^ 64 + l < 2 ^ 128 := by
  omega
theorem tiny_pl {n pl : Nat} {U : Int32} {u : Int} (hn : n ≤ 64) (hk : U.toInt = u) (hu : -200000 ≤ u ∧ u ≤ 200000) (hpl : -16381 - (n : Int) = u + pl) : ((-16381 : Int32) - nI n) - U = nI pl := by
  apply Int32.toInt_inj.mp
  have e1 : (-16381 : Int32).toInt = -16381 := by decide
  have e2 : (nI n).toInt = n := nI_toInt (by omega)
  have e3 : ((-16381 : Int32) - nI n).toInt = -16381 - n := by rw [i32_subT (by omega) (by omega), e1, e2]
  have e4 : (nI pl).toInt = pl := nI_toInt (by omega)
  rw [i32_subT (by omega) (by omega), e3, hk, e4]
  omega
theorem make_spec (σ : St) (mk a1 : Nat) (m : Bool) (n a4 w : Nat) (hs : gI σ 6 3 = nI w) (hw : w < 65536) (hnd : n = 24 ∨ n = 53 ∨ n = 64) (hn : 2 ^ 63 ≤ uN (gJ σ 8 a1)) (hu : -200000 ≤ (gI σ 11 a1).toInt ∧ (gI σ 11 a1).toInt ≤ 200000) (R : Nat × Int × Nat)
    (hR : R = SP w n m ((gI σ 11 a1).toInt + 127) (RQ (uN (gJ σ 8 a1) * 2 ^ 64 + uN (gJ σ 9 a1)) (gZ σ 10 a1) (gI σ 11 a1).toInt)) :
    ∃ (K : Int64) (c : Bool) (pw : Int32) (F : Int64), f_Maker_make σ mk a1 m (nI n) a4 = f_Real_set (f_Ctl_tell (sZ (sJ σ 12 a1 K) 13 a1 c) (nI R.1)) a4 m pw F ∧ pw.toInt = R.2.1 ∧ uN F = R.2.2 := by
  have hl := uN_lt2 (gJ σ 9 a1)
  have hh := uN_lt2 (gJ σ 8 a1)
  obtain ⟨hN1, hN2⟩ := N128 hn hh hl
  have e127 : (127 : Int32).toInt = 127 := by decide
  have eE : (f_Size_exponent σ a1).toInt = (gI σ 11 a1).toInt + 127 := by
    unfold f_Size_exponent
    rw [i32_addT (by omega) (by omega), e127]
  have h8 : ¬ gJ σ 8 a1 = 0 := by
    rw [uN_eq0]
    omega
  have hnot : f_Size_isNothing σ a1 = false := by
    unfold f_Size_isNothing
    simp [h8]
  have cT : ((-16382 : Int32) ≤ f_Size_exponent σ a1) ↔ ¬ ((gI σ 11 a1).toInt + 127 < -16382) := by
    rw [Int32.le_iff_toInt_le, eE]
    have : (-16382 : Int32).toInt = -16382 := by decide
    omega
  have hway : wayOf w ≤ 4 := by have := wayOf_lt w; omega
  generalize hN : uN (gJ σ 8 a1) * 2 ^ 64 + uN (gJ σ 9 a1) = N at hR hN1 hN2
  generalize hk : (gI σ 11 a1).toInt = u at hR hu eE cT
  have rd := rounding_eq hs hw
  have g64 : ∀ K : Int64, uN (jlshl K (64 - nI n)) = uN K * 2 ^ (64 - n) % 2 ^ 64 := fun K => by
    rcases hnd with rfl | rfl | rfl
    · exact uN_jlshl K 40 (by decide) (by decide)
    · exact uN_jlshl K 11 (by decide) (by decide)
    · exact uN_jlshl K 0 (by decide) (by decide)
  by_cases hb1 : u + 127 < -16382 ∧ w / 16 % 2 = 1
  · -- tiny, and masked
    obtain ⟨ht, hm⟩ := hb1
    obtain ⟨pl, hpl⟩ : ∃ pl : Nat, -16381 - (n : Int) = u + pl := ⟨(-16381 - (n : Int) - u).toNat, by omega⟩
    have hpa : ((-16381 : Int32) - nI n) - gI σ 11 a1 = nI pl := tiny_pl (by omega) hk hu hpl
    have hq : RQ N (gZ σ 10 a1) u (-16381 - n) = (N / 2 ^ pl, hb N pl, rsb N pl (gZ σ 10 a1)) := RQ_ge pl hpl
    obtain ⟨K, c1, c2⟩ := round_spec σ a1 pl (wayOf w) m (by omega) (by omega) hn hway _ rfl
    rw [hN] at c1 c2
    rw [← hq] at c1 c2
    have hx1 : (RQ N (gZ σ 10 a1) u (-16381 - n)).1 < 2 ^ (n - 1) := by
      rw [hq]
      show N / 2 ^ pl < 2 ^ (n - 1)
      rw [Nat.div_lt_iff_lt_mul (pow_pos2 pl), ← Nat.pow_add]
      exact Nat.lt_of_lt_of_le hN2 (Nat.pow_le_pow_right (by decide) (by omega))
    have hr1 := (rnd_le (wayOf w) m (RQ N (gZ σ 10 a1) u (-16381 - n))).2
    have hRR := hR.trans (SP_1 ht hm _ rfl)
    clear hR
    generalize RQ N (gZ σ 10 a1) u (-16381 - n) = x at *
    generalize hX : rnd (wayOf w) m x = X at *
    have hp : 2 ^ (n - 1) * 2 ^ (64 - n) = 2 ^ 63 := by rw [← Nat.pow_add]; congr 1; omega
    have hXm : X * 2 ^ (64 - n) ≤ 2 ^ 63 := by
      rw [← hp]
      exact Nat.mul_le_mul_right _ (by omega)
    have hXs : X < 2 ^ 64 := by
      have := Nat.le_mul_of_pos_right X (pow_pos2 (64 - n))
      omega
    rw [Nat.mod_eq_of_lt hXs] at c2
    have hF : uN (jlshl K (64 - nI n)) = X * 2 ^ (64 - n) := by
      rw [g64, c2, Nat.mod_eq_of_lt (by omega)]
    refine ⟨K, lossy x, if 2 ^ 63 ≤ X * 2 ^ (64 - n) then 1 else 0, jlshl K (64 - nI n), ?_, ?_, ?_⟩
    · rw [hRR]
      unfold f_Maker_make f_Maker_makeTiny
      have mk16 := masks16 hs hw
      have cT' : ¬ ((-16382 : Int32) ≤ f_Size_exponent σ a1) := fun q => (cT.mp q) ht
      simp only [hnot, Bool.false_eq_true, if_false, cT', if_true, mk16, hm, decide_true, hpa, rd, c1]
      have g12 : gJ (sZ (sJ σ 12 a1 K) 13 a1 (lossy x)) 12 a1 = K := by simp [gJ_sZ, gJ_sJ]
      have g13 : gZ (sZ (sJ σ 12 a1 K) 13 a1 (lossy x)) 13 a1 = lossy x := by simp [gZ_sZ]
      rw [g12, g13]
      have q1 : (if lossy x = true then (48 : Int32) else 0) = nI (if lossy x = true then 48 else 0) := by
        split <;> rfl
      have q2 : bI (if 0 ≤ jlshl K (64 - nI n) then false else true) = (if 2 ^ 63 ≤ X * 2 ^ (64 - n) then 1 else 0) := by
        simp only [uN_nn, hF]
        by_cases hc : 2 ^ 63 ≤ X * 2 ^ (64 - n)
        · rw [if_pos hc, if_neg (by omega)]
          rfl
        · rw [if_neg hc, if_pos (by omega)]
          rfl
      rw [q1, q2]
    · rw [hRR]
      show (if 2 ^ 63 ≤ X * 2 ^ (64 - n) then (1 : Int32) else 0).toInt = if 2 ^ 63 ≤ X * 2 ^ (64 - n) then (1 : Int) else 0
      split <;> rfl
    · rw [hF, hRR]
  · -- all others are rounded at their own place
    have hpa : (128 : Int32) - nI n = nI (128 - n) := pk_sub (a := 128) (by omega)
    have hq : RQ N (gZ σ 10 a1) u (u + 127 + 1 - n) = (N / 2 ^ (128 - n), hb N (128 - n), rsb N (128 - n) (gZ σ 10 a1)) := RQ_ge (128 - n) (by omega)
    obtain ⟨K, c1, c2⟩ := round_spec σ a1 (128 - n) (wayOf w) m (by omega) (by omega) hn hway _ rfl
    rw [hN] at c1 c2
    rw [← hq] at c1 c2
    have hx1 : (RQ N (gZ σ 10 a1) u (u + 127 + 1 - n)).1 < 2 ^ n ∧ 2 ^ (n - 1) ≤ (RQ N (gZ σ 10 a1) u (u + 127 + 1 - n)).1 := by
      rw [hq]
      show N / 2 ^ (128 - n) < 2 ^ n ∧ 2 ^ (n - 1) ≤ N / 2 ^ (128 - n)
      rw [Nat.div_lt_iff_lt_mul (pow_pos2 _), Nat.le_div_iff_mul_le (pow_pos2 _), ← Nat.pow_add, ← Nat.pow_add]
      have e1 : n + (128 - n) = 128 := by omega
      have e2 : n - 1 + (128 - n) = 127 := by omega
      rw [e1, e2]
      exact ⟨hN2, hN1⟩
    have hr1 := rnd_le (wayOf w) m (RQ N (gZ σ 10 a1) u (u + 127 + 1 - n))
    have S2 := fun h1 h2 => hR.trans (SP_2 h1 h2 (RQ N (gZ σ 10 a1) u (u + 127 + 1 - n)) rfl)
    have S3 := fun h1 h2 => hR.trans (SP_3 h1 (RQ N (gZ σ 10 a1) u (u + 127 + 1 - n)) rfl h2)
    have S4 := fun h1 h2 h3 => hR.trans (SP_4 h1 (RQ N (gZ σ 10 a1) u (u + 127 + 1 - n)) rfl h2 h3)
    have S5 := fun h1 h2 h3 => hR.trans (SP_5 h1 (RQ N (gZ σ 10 a1) u (u + 127 + 1 - n)) rfl h2 h3)
    clear hR
    generalize RQ N (gZ σ 10 a1) u (u + 127 + 1 - n) = x at *
    generalize hX : rnd (wayOf w) m x = X at *
    have hp : 2 ^ n * 2 ^ (64 - n) = 2 ^ 64 := by rw [← Nat.pow_add]; congr 1; omega
    have hXm : X * 2 ^ (64 - n) ≤ 2 ^ 64 := by
      rw [← hp]
      exact Nat.mul_le_mul_right _ (by omega)
    have hF0 : uN (jlshl K (64 - nI n)) = X * 2 ^ (64 - n) % 2 ^ 64 := by
      rw [g64, c2, Nat.mod_mul_mod]
    have hX0 : 0 < X * 2 ^ (64 - n) := Nat.mul_pos (by have := pow_pos2 (n - 1); omega) (pow_pos2 _)
    have hcar : (jlshl K (64 - nI n) = 0) ↔ X = 2 ^ n := by
      rw [uN_eq0, hF0]
      constructor
      · intro h
        have : X * 2 ^ (64 - n) = 2 ^ 64 := by omega
        rw [← hp] at this
        exact Nat.eq_of_mul_eq_mul_right (pow_pos2 _) this
      · intro h
        rw [h, hp]
    -- the fraction and the power before its change
    obtain ⟨F, P, hFP, hF, hP⟩ : ∃ (F : Int64) (P : Int32), (if jlshl K (64 - nI n) = 0 then ((f_Size_exponent (sZ (sJ σ 12 a1 K) 13 a1 (lossy x)) a1 + 16383) + 1, (-9223372036854775808)) else (f_Size_exponent (sZ (sJ σ 12 a1 K) 13 a1 (lossy x)) a1 + 16383, jlshl K (64 - nI n))) = (P, F) ∧ uN F = (if X = 2 ^ n then 2 ^ 63 else X * 2 ^ (64 - n)) ∧ P.toInt = u + 127 + 16383 + (if X = 2 ^ n then 1 else 0) := by
      have eE2 : f_Size_exponent (sZ (sJ σ 12 a1 K) 13 a1 (lossy x)) a1 = f_Size_exponent σ a1 := rfl
      have e1 : (16383 : Int32).toInt = 16383 := by decide
      have e2 : (1 : Int32).toInt = 1 := by decide
      have e3 : (f_Size_exponent σ a1 + 16383).toInt = u + 127 + 16383 := by rw [i32_addT (by omega) (by omega), eE, e1]
      rw [eE2]
      by_cases hc : X = 2 ^ n
      · refine ⟨_, _, by rw [if_pos (hcar.mpr hc)], ?_, ?_⟩
        · rw [if_pos hc]
          rfl
        · rw [if_pos hc, i32_addT (by omega) (by omega), e3, e2]
      · refine ⟨_, _, by rw [if_neg (fun q => hc (hcar.mp q))], ?_, ?_⟩
        · rw [if_neg hc, hF0, Nat.mod_eq_of_lt]
          have : X * 2 ^ (64 - n) ≠ 2 ^ 64 := fun q => hc (hcar.mp (by rw [uN_eq0, hF0, q]))
          omega
        · rw [if_neg hc, e3]
          simp
    have g12 : gJ (sZ (sJ σ 12 a1 K) 13 a1 (lossy x)) 12 a1 = K := by simp [gJ_sZ, gJ_sJ]
    have g13 : gZ (sZ (sJ σ 12 a1 K) 13 a1 (lossy x)) 13 a1 = lossy x := by simp [gZ_sZ]
    have hs2 : gI (sZ (sJ σ 12 a1 K) 13 a1 (lossy x)) 6 3 = nI w := hs
    have ls : (if lossy x = true then (32 : Int32) else 0) = nI (if lossy x = true then 32 else 0) := by
      split <;> rfl
    by_cases ht : u + 127 < -16382
    · have hm : ¬ w / 16 % 2 = 1 := fun q => hb1 ⟨ht, q⟩
      have hRR := S2 ht hm
      have cT' : ¬ ((-16382 : Int32) ≤ f_Size_exponent σ a1) := fun q => (cT.mp q) ht
      refine ⟨K, lossy x, P + 24576, F, ?_, ?_, ?_⟩
      · rw [hRR]
        unfold f_Maker_make f_Maker_make_b58 f_Maker_make_b178
        have mk16 := masks16 hs hw
        simp only [hnot, Bool.false_eq_true, if_false, cT', if_true, mk16, hm, decide_false, hpa, rd, c1, g12, hFP, tell_13, g13, ls, tell_tell]
        congr 2
        split <;> decide
      · rw [hRR]
        have e1 : (24576 : Int32).toInt = 24576 := by decide
        rw [i32_addT (by split at hP <;> omega) (by split at hP <;> omega), hP, e1]
        simp only
        omega
      · rw [hRR, hF]
    · have cT' : ((-16382 : Int32) ≤ f_Size_exponent σ a1) := cT.mpr ht
      have cP : (P < 32767) ↔ u + 127 + 16383 + (if X = 2 ^ n then 1 else 0) < 32767 := by
        rw [Int32.lt_iff_toInt_lt, hP]
        exact Iff.rfl
      by_cases ho : u + 127 + 16383 + (if X = 2 ^ n then 1 else 0) < 32767
      · have hRR := S3 ht ho
        refine ⟨K, lossy x, P, F, ?_, ?_, ?_⟩
        · rw [hRR]
          unfold f_Maker_make f_Maker_make_b58 f_Maker_make_b178
          simp only [hnot, Bool.false_eq_true, if_false, cT', if_true, hpa, rd, c1, g12, hFP, cP.mpr ho, g13, ls]
        · rw [hRR, hP]
        · rw [hRR, hF]
      · have cP' : ¬ P < 32767 := fun q => ho (cP.mp q)
        by_cases hm8 : w / 8 % 2 = 1
        · have hRR := S4 ht ho hm8
          have mk8 : f_Ctl_masks (f_Ctl_tell (sZ (sJ σ 12 a1 K) 13 a1 (lossy x)) 8) 8 = true := by
            rw [masks8 (σ := f_Ctl_tell (sZ (sJ σ 12 a1 K) 13 a1 (lossy x)) 8) (w := w) hs2 hw]
            simp [hm8]
          have inf : f_Ctl_overBecomesInfinite (f_Ctl_tell (sZ (sJ σ 12 a1 K) 13 a1 (lossy x)) (8 ||| 32)) m = infS (wayOf w) m := infin_eq hs2 hw m
          refine ⟨K, lossy x, if infS (wayOf w) m = true then 32767 else 32766, if infS (wayOf w) m = true then -9223372036854775808 else jlshl (-1) (64 - nI n), ?_, ?_, ?_⟩
          · rw [hRR]
            unfold f_Maker_make f_Maker_make_b58 f_Maker_makeGreatest
            simp only [hnot, Bool.false_eq_true, if_false, cT', if_true, hpa, rd, c1, g12, hFP, cP', mk8, tell_tell, inf]
            split <;> rfl
          · rw [hRR]
            show (if infS (wayOf w) m = true then (32767 : Int32) else 32766).toInt = (if infS (wayOf w) m = true then (32767 : Int) else 32766)
            split <;> rfl
          · rw [hRR]
            show uN (if infS (wayOf w) m = true then (-9223372036854775808 : Int64) else jlshl (-1) (64 - nI n)) = (if infS (wayOf w) m = true then 2 ^ 63 else (2 ^ n - 1) * 2 ^ (64 - n))
            split
            · rfl
            · rw [g64]
              have : uN (-1) = 2 ^ 64 - 1 := rfl
              rw [this]
              rcases hnd with rfl | rfl | rfl <;> decide
        · have hRR := S5 ht ho hm8
          have mk8 : f_Ctl_masks (f_Ctl_tell (sZ (sJ σ 12 a1 K) 13 a1 (lossy x)) 8) 8 = false := by
            rw [masks8 (σ := f_Ctl_tell (sZ (sJ σ 12 a1 K) 13 a1 (lossy x)) 8) (w := w) hs2 hw]
            simp [hm8]
          refine ⟨K, lossy x, P + (-24576), F, ?_, ?_, ?_⟩
          · rw [hRR]
            unfold f_Maker_make f_Maker_make_b58 f_Maker_make_b178
            simp only [hnot, Bool.false_eq_true, if_false, cT', if_true, hpa, rd, c1, g12, hFP, cP', mk8, tell_13, g13, ls, tell_tell]
            congr 2
            split <;> decide
          · rw [hRR]
            have e1 : (-24576 : Int32).toInt = -24576 := by decide
            rw [i32_addT (by split at hP <;> omega) (by split at hP <;> omega), hP, e1]
            simp only
            omega
          · rw [hRR, hF]
