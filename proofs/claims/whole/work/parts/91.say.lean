/-! the reference: what is said; its operation from the stack's side -/
theorem say_step {w T d : Nat} (hT : T < 64) (hw : w < 65536) (hd : 0 < d) (hd4 : d ≤ 4) (s : St) (hs : gI s 2 30 = nI w) : b_M_say_12 (nI T) (nI d, s) = (true, (nI (2 * d), sZ s 9 30 (gZ s 9 30 || (decide (T / d % 2 = 1) && decide (w / d % 2 = 0))))) := by
  have c : ¬ (8 : Int32) ≤ nI d := nI_ge (b := 8) (by omega) (by decide)
  have r1 : jrem (nI T / nI d) 2 = nI (T / d % 2) := rem_M (by omega) d 2 hd (by omega) (by decide) (by decide)
  have r2 : jrem (nI w / nI d) 2 = nI (w / d % 2) := rem_M hw d 2 hd (by omega) (by decide) (by decide)
  have e1 : (nI (T / d % 2) = 1) ↔ T / d % 2 = 1 := nI_eq (b := 1) (by omega) (by decide)
  have e2 : (nI (w / d % 2) = 0) ↔ w / d % 2 = 0 := nI_eq0 (by omega)
  have e3 : (2 : Int32) * nI d = nI (2 * d) := pk_mul 2 d
  unfold b_M_say_12
  simp only [c, if_false, hs, r1, r2, e1, e2, e3]
  congr 3
  by_cases q1 : T / d % 2 = 1 <;> by_cases q2 : w / d % 2 = 0 <;> cases gZ s 9 30 <;> simp [q1, q2]
theorem say_M {τ : St} {w T : Nat} (hs : gI τ 2 30 = nI w) (hw : w < 65536) (hT : T < 64) : f_M_say τ (nI T) = sZ (sI τ 8 30 (gI τ 8 30 ||| nI T)) 9 30 (gZ τ 9 30 || endsN w T) := by
  unfold f_M_say
  simp only []
  generalize hS : sI τ 8 30 (gI τ 8 30 ||| nI T) = S
  have h2 : gI S 2 30 = nI w := by rw [← hS]; exact hs
  have h9 : gZ S 9 30 = gZ τ 9 30 := by rw [← hS]; rfl
  have s1 := say_step hT hw (d := 1) (by decide) (by decide) S h2
  have s2 := fun b => say_step hT hw (d := 2) (by decide) (by decide) (sZ S 9 30 b) h2
  have s4 := fun b => say_step hT hw (d := 4) (by decide) (by decide) (sZ S 9 30 b) h2
  have s8 : ∀ x, b_M_say_12 (nI T) (nI 8, x) = (false, (nI 8, x)) := fun x => by
    unfold b_M_say_12
    have : (8 : Int32) ≤ nI 8 := by decide
    simp only [this, if_true]
  have g9 : ∀ b, gZ (sZ S 9 30 b) 9 30 = b := fun b => by simp [gZ_sZ]
  have one : (1 : Int32) = nI 1 := rfl
  have fu : (129 : Nat) = 125 + 1 + 1 + 1 + 1 := rfl
  rw [fu, one]
  simp only [lpn, s1, show 2 * 1 = 2 from rfl, s2, show 2 * 2 = 4 from rfl, sZ_sZ, g9, s4, show 2 * 4 = 8 from rfl, s8, h9]
  congr 1
  unfold endsN
  have e1 : T / 1 = T := Nat.div_one T
  have e2 : w / 1 = w := Nat.div_one w
  rw [e1, e2]
  cases gZ τ 9 30 <;> simp [Bool.or_assoc]
theorem halves (f : Int64) : jlshl (Int32.toInt64 (f_M_high f)) 32 ||| (Int32.toInt64 (Int64.toInt32 f) &&& 4294967295) = f := by
  apply Int64.toBitVec_inj.mp
  apply BitVec.eq_of_getLsbD_eq
  intro i hi
  have e32 : ((32 : Int32).toInt64 &&& 63).toBitVec.smod 64 = 32#64 := by decide
  have h1 : (jlshl (Int32.toInt64 (f_M_high f)) 32).toBitVec = (Int32.toInt64 (f_M_high f)).toBitVec <<< 32 := by
    unfold jlshl
    rw [Int64.toBitVec_shiftLeft, e32]
    rfl
  have h2 : (f_M_high f).toBitVec = (f.toBitVec.sshiftRight 32).signExtend 32 := by
    unfold f_M_high jlshr
    rw [Int64.toBitVec_toInt32, Int64.toBitVec_shiftRight, BitVec.sshiftRight', e32]
    rfl
  rw [Int64.toBitVec_or, BitVec.getLsbD_or, h1, BitVec.getLsbD_shiftLeft, Int64.toBitVec_and, BitVec.getLsbD_and, Int32.toBitVec_toInt64, Int32.toBitVec_toInt64, h2, Int64.toBitVec_toInt32]
  have m : (4294967295 : Int64).toBitVec.getLsbD i = decide (i < 32) := by
    have : (4294967295 : Int64).toBitVec = BitVec.ofNat 64 (2 ^ 32 - 1) := by decide
    rw [this, BitVec.getLsbD_ofNat, Nat.testBit_two_pow_sub_one]
    simp [hi]
  rw [m]
  by_cases c : i < 32
  · simp only [hi, c, decide_true, Bool.true_and, Bool.not_true, Bool.false_and, Bool.false_or, Bool.and_true]
    rw [BitVec.getLsbD_signExtend, BitVec.getLsbD_signExtend]
    simp [hi, c]
  · have c1 : i - 32 < 32 := by omega
    have c2 : i - 32 < 64 := by omega
    have c3 : 32 + (i - 32) < 64 := by omega
    have c4 : 32 + (i - 32) = i := by omega
    simp only [hi, c, decide_true, decide_false, Bool.true_and, Bool.not_false, Bool.and_false, Bool.or_false]
    rw [BitVec.getLsbD_signExtend, BitVec.getLsbD_signExtend, BitVec.getLsbD_sshiftRight]
    simp [c1, c2, c4, hi]
