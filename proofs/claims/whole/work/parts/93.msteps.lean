/-! the reference's steps: digits apart, rounding -/
theorem norm_ex {F : Nat} (h0 : F ≠ 0) (h : F < 2 ^ 64) : ∃ j : Nat, j < 64 ∧ 2 ^ 63 ≤ F * 2 ^ j ∧ F * 2 ^ j < 2 ^ 64 ∧ ∀ i, i < j → F * 2 ^ i < 2 ^ 63 := by
  have g1 : 2 ^ F.log2 ≤ F := (Nat.le_log2 h0).mp (Nat.le_refl _)
  have g2 : F < 2 ^ (F.log2 + 1) := (Nat.log2_lt h0).mp (Nat.lt_succ_self _)
  have l : F.log2 < 64 := (Nat.log2_lt h0).mpr h
  generalize F.log2 = t at *
  have e1 : (2 : Nat) ^ 63 = 2 ^ t * 2 ^ (63 - t) := by rw [← Nat.pow_add]; congr 1; omega
  have e2 : (2 : Nat) ^ 64 = 2 ^ (t + 1) * 2 ^ (63 - t) := by rw [← Nat.pow_add]; congr 1; omega
  refine ⟨63 - t, by omega, ?_, ?_, fun i hi => ?_⟩
  · rw [e1]
    exact Nat.mul_le_mul_right _ g1
  · rw [e2]
    exact Nat.mul_lt_mul_of_pos_right g2 (pow_pos2 _)
  · have e3 : (2 : Nat) ^ 63 = 2 ^ (62 - t) * 2 ^ (t + 1) := by rw [← Nat.pow_add]; congr 1; omega
    have : F * 2 ^ i < 2 ^ (t + 1) * 2 ^ i := Nat.mul_lt_mul_of_pos_right g2 (pow_pos2 _)
    refine Nat.lt_of_lt_of_le this ?_
    rw [e3, Nat.mul_comm]
    exact Nat.mul_le_mul_right _ (Nat.pow_le_pow_right (by decide) (by omega))
theorem dbl_two (x : Int64) : uN (2 * x) = 2 * uN x % 18446744073709551616 := by
  rw [uN_mul]
  rfl
/-- doubled until its highest bit is set -/
theorem dbl_fuel {x : Int64} {j : Nat} (h0 : uN x ≠ 0) (hj : j < 64) (h2 : uN x * 2 ^ j < 2 ^ 64) (h3 : ∀ i, i < j → uN x * 2 ^ i < 2 ^ 63) : j < dblf x := by
  unfold dblf
  rcases Nat.eq_zero_or_pos j with rfl | hp
  · split <;> omega
  · have x63 := h3 0 hp
    rw [Nat.pow_zero, Nat.mul_one] at x63
    have xi := uN_int x
    rw [if_pos (by omega)] at xi
    rw [xi, if_neg (by omega)]
    rcases (show j = 1 ∨ 2 ≤ j by omega) with rfl | h2j
    · omega
    · have p4 : 2 ^ 2 ≤ 2 ^ j := Nat.pow_le_pow_right (by decide) h2j
      have : uN x * 2 ^ 2 ≤ uN x * 2 ^ j := Nat.mul_le_mul_left _ p4
      omega
theorem apart_loop (S : St) (v0 : Int64) (f0 : Int32) (hf : -100000 ≤ f0.toInt ∧ f0.toInt ≤ 100000) (h0 : uN v0 ≠ 0) :
    ∃ (v : Int64) (f : Int32) (j : Nat), lpn b_MS_apart_22 (dblf v0) (sI (sJ S 34 42 v0) 35 42 f0) = sI (sJ S 34 42 v) 35 42 f ∧ j < 64 ∧ uN v = uN v0 * 2 ^ j ∧ 2 ^ 63 ≤ uN v ∧ f.toInt = f0.toInt - j := by
  obtain ⟨j, j1, j2, j3, j4⟩ := norm_ex h0 (uN_lt2 v0)
  refine lpn_P (b := b_MS_apart_22) (fun i t => ∃ (v : Int64) (f : Int32), t = sI (sJ S 34 42 v) 35 42 f ∧ uN v = uN v0 * 2 ^ i ∧ f.toInt = f0.toInt - i) (fun y => ∃ (v : Int64) (f : Int32) (j : Nat), y = sI (sJ S 34 42 v) 35 42 f ∧ j < 64 ∧ uN v = uN v0 * 2 ^ j ∧ 2 ^ 63 ≤ uN v ∧ f.toInt = f0.toInt - j) j ?_ ?_ (dbl_fuel h0 j1 j3 j4) ⟨v0, f0, rfl, by simp, by simp⟩
  · intro i t hi ⟨v, f, et, e1, e2⟩
    subst et
    have g34 : gJ (sI (sJ S 34 42 v) 35 42 f) 34 42 = v := by simp [gJ_sI, gJ_sJ]
    have g35 : gI (sJ (sI (sJ S 34 42 v) 35 42 f) 34 42 (2 * v)) 35 42 = f := by simp [gI_sJ, gI_sI]
    have lt := j4 i hi
    have pos : 0 < uN v0 * 2 ^ i := Nat.mul_pos (Nat.pos_of_ne_zero h0) (pow_pos2 i)
    have c : ¬ v ≤ 0 := fun q => by
      have := uN_np.mp q
      rw [e1] at this
      omega
    refine ⟨sI (sJ S 34 42 (2 * v)) 35 42 (f - 1), ?_, 2 * v, f - 1, rfl, ?_, ?_⟩
    · unfold b_MS_apart_22
      simp only [g34, c, if_false, g35]
      congr 1
      generalize 2 * v = v2
      generalize f - 1 = f2
      apply St_ext <;> intro k x <;> simp only [gI_sI, gI_sJ, gJ_sI, gJ_sJ, gZ_sI, gZ_sJ] <;> grind
    · rw [dbl_two, e1, show uN v0 * 2 ^ (i + 1) = 2 * (uN v0 * 2 ^ i) from by rw [Nat.pow_succ, ← Nat.mul_assoc, Nat.mul_comm]]
      omega
    · have one : (1 : Int32).toInt = 1 := by decide
      rw [i32_subT (by omega) (by omega), e2, one]
      omega
  · intro t ⟨v, f, et, e1, e2⟩
    subst et
    have g34 : gJ (sI (sJ S 34 42 v) 35 42 f) 34 42 = v := by simp [gJ_sI, gJ_sJ]
    refine ⟨sI (sJ S 34 42 v) 35 42 f, ?_, v, f, j, rfl, j1, e1, by rw [e1]; exact j2, e2⟩
    have c : v ≤ 0 := uN_np.mpr (Or.inr (by rw [e1]; exact j2))
    unfold b_MS_apart_22
    simp only [g34, c, if_true]
theorem make_loop (v0 : Int64) (f0 : Int32) (hf : -100000 ≤ f0.toInt ∧ f0.toInt ≤ 100000) (h0 : uN v0 ≠ 0) :
    ∃ (v : Int64) (f : Int32) (j : Nat), lpn b_MS_make_36 (dblf v0) (f0, v0) = (f, v) ∧ j < 64 ∧ uN v = uN v0 * 2 ^ j ∧ 2 ^ 63 ≤ uN v ∧ f.toInt = f0.toInt - j := by
  obtain ⟨j, j1, j2, j3, j4⟩ := norm_ex h0 (uN_lt2 v0)
  refine lpn_P (b := b_MS_make_36) (fun i t => ∃ (v : Int64) (f : Int32), t = (f, v) ∧ uN v = uN v0 * 2 ^ i ∧ f.toInt = f0.toInt - i) (fun y => ∃ (v : Int64) (f : Int32) (j : Nat), y = (f, v) ∧ j < 64 ∧ uN v = uN v0 * 2 ^ j ∧ 2 ^ 63 ≤ uN v ∧ f.toInt = f0.toInt - j) j ?_ ?_ (dbl_fuel h0 j1 j3 j4) ⟨v0, f0, rfl, by simp, by simp⟩
  · intro i t hi ⟨v, f, et, e1, e2⟩
    subst et
    have lt := j4 i hi
    have pos : 0 < uN v0 * 2 ^ i := Nat.mul_pos (Nat.pos_of_ne_zero h0) (pow_pos2 i)
    have c : ¬ v ≤ 0 := fun q => by
      have := uN_np.mp q
      rw [e1] at this
      omega
    refine ⟨(f + (-1), 2 * v), ?_, 2 * v, f + (-1), rfl, ?_, ?_⟩
    · unfold b_MS_make_36
      simp only [c, if_false]
    · rw [dbl_two, e1, show uN v0 * 2 ^ (i + 1) = 2 * (uN v0 * 2 ^ i) from by rw [Nat.pow_succ, ← Nat.mul_assoc, Nat.mul_comm]]
      omega
    · have one : (-1 : Int32).toInt = -1 := by decide
      rw [i32_addT (by omega) (by omega), e2, one]
      omega
  · intro t ⟨v, f, et, e1, e2⟩
    subst et
    refine ⟨(f, v), ?_, v, f, j, rfl, j1, e1, by rw [e1]; exact j2, e2⟩
    have c : v ≤ 0 := uN_np.mpr (Or.inr (by rw [e1]; exact j2))
    unfold b_MS_make_36
    simp only [c, if_true]
/-! halves -/
theorem lrem2 (v : Int64) : (jlrem v 2 = 0) ↔ uN v % 2 = 0 := by
  have e2 : (2 : Int64).toInt = 2 := by decide
  have d : (v / 2).toInt = v.toInt.tdiv 2 := Int64.toInt_div_of_ne_right v 2 (by decide)
  obtain ⟨d1, d2⟩ := tdiv2 v.toInt
  have hd : (v / 2).toInt = v.toInt / 2 ∧ 0 ≤ v.toInt ∨ (v / 2).toInt = -((-v.toInt) / 2) ∧ v.toInt < 0 := by
    by_cases c : 0 ≤ v.toInt
    · exact Or.inl ⟨by rw [d, d1 c], c⟩
    · exact Or.inr ⟨by rw [d, d2 (by omega)], by omega⟩
  have hv := uN_int v
  have bv := uN_lt v
  have m : (v / 2 * 2).toInt = (v / 2).toInt * 2 := by
    rw [Int64.toInt_mul, e2, Int.bmod_eq_of_le]
    · split at hv <;> omega
    · split at hv <;> omega
  have j : (jlrem v 2).toInt = v.toInt - (v / 2).toInt * 2 := by
    unfold jlrem
    rw [Int64.toInt_sub, m, Int.bmod_eq_of_le]
    · split at hv <;> omega
    · split at hv <;> omega
  rw [← Int64.toInt_inj, j, show (0 : Int64).toInt = 0 from rfl]
  split at hv <;> omega
theorem lrem2_1 {v : Int64} (h : uN v < 9223372036854775808) : (jlrem v 2 = 1) ↔ uN v % 2 = 1 := by
  have e2 : (2 : Int64).toInt = 2 := by decide
  have d : (v / 2).toInt = v.toInt.tdiv 2 := Int64.toInt_div_of_ne_right v 2 (by decide)
  obtain ⟨d1, -⟩ := tdiv2 v.toInt
  have hv := uN_int v
  rw [if_pos (by omega)] at hv
  rw [d1 (by omega)] at d
  have m : (v / 2 * 2).toInt = (v / 2).toInt * 2 := by
    rw [Int64.toInt_mul, e2, Int.bmod_eq_of_le]
    · omega
    · omega
  have j : (jlrem v 2).toInt = v.toInt - (v / 2).toInt * 2 := by
    unfold jlrem
    rw [Int64.toInt_sub, m, Int.bmod_eq_of_le]
    · omega
    · omega
  rw [← Int64.toInt_inj, j, show (1 : Int64).toInt = 1 from rfl]
  omega
theorem shr_max (v : Int64) : uN (jlshr v 1 &&& 9223372036854775807) = uN v / 2 := by
  have h1 : (jlshr v 1).toBitVec = v.toBitVec.sshiftRight 1 := by
    unfold jlshr
    rw [Int64.toBitVec_shiftRight, BitVec.sshiftRight']
    have : ((1 : Int32).toInt64 &&& 63).toBitVec.smod 64 = 1#64 := by decide
    rw [this]
    rfl
  have h2 : (jlshr v 1 &&& 9223372036854775807).toBitVec = v.toBitVec >>> 1 := by
    rw [Int64.toBitVec_and, h1]
    apply BitVec.eq_of_getLsbD_eq
    intro i hi
    have m : (9223372036854775807 : Int64).toBitVec.getLsbD i = decide (i < 63) := by
      have : (9223372036854775807 : Int64).toBitVec = BitVec.ofNat 64 (2 ^ 63 - 1) := by decide
      rw [this, BitVec.getLsbD_ofNat, Nat.testBit_two_pow_sub_one]
      simp [hi]
    rw [BitVec.getLsbD_and, BitVec.getLsbD_sshiftRight, m, BitVec.getLsbD_ushiftRight]
    by_cases c : i < 63
    · have : 1 + i < 64 := by omega
      simp [c, this]
      omega
    · have : ¬ 1 + i < 64 := by omega
      simp [c]
      have e : i = 63 := by omega
      subst e
      simp
  have h3 : uN (jlshr v 1 &&& 9223372036854775807) = (jlshr v 1 &&& 9223372036854775807).toBitVec.toNat := rfl
  rw [h3, h2, BitVec.toNat_ushiftRight, Nat.shiftRight_eq_div_pow]
  rfl
theorem rounded_M {τ : St} {w n : Nat} {f : Int64} {neg : Bool} (hwd : gI τ 27 42 = nI w) (hw : w < 65536) (hn : 1 ≤ n) (hn2 : n < 2 ^ 20) (x : Nat × Bool × Bool) (hx : x = (uN f / 2 ^ n, hb (uN f) n, rsb (uN f) n false)) :
    ∃ W : Int64, f_MS_rounded τ f (nI n) neg = (W, sZ τ 36 42 (lossy x)) ∧ uN W = rnd (wayOf w) neg x := by
  have bf := uN_lt2 f
  obtain ⟨m, hm⟩ : ∃ m : Nat, m = min n 70 := ⟨_, rfl⟩
  obtain ⟨v, hl, hv⟩ : ∃ v : Int64, lpn (b_MS_rounded_12 (nI n)) (upf (nI n) 0) (0, false, false, f) = (nI m, rsb (uN f) m false, hb (uN f) m, v) ∧ uN v = uN f / 2 ^ m := by
    refine lpn_P (b := b_MS_rounded_12 (nI n)) (fun i t => ∃ v : Int64, t = (nI i, rsb (uN f) i false, hb (uN f) i, v) ∧ uN v = uN f / 2 ^ i) (fun y => ∃ v : Int64, y = (nI m, rsb (uN f) m false, hb (uN f) m, v) ∧ uN v = uN f / 2 ^ m) m ?_ ?_ ?_ ?_
    · intro i t hi ⟨v, et, e1⟩
      subst et
      have c1 : ¬ nI n ≤ nI i := nI_ge (by omega) (by omega)
      have c2 : ¬ (70 : Int32) ≤ nI i := nI_ge (b := 70) (by omega) (by decide)
      refine ⟨_, ?_, jlshr v 1 &&& 9223372036854775807, rfl, ?_⟩
      · unfold b_MS_rounded_12
        have t3 : (if rsb (uN f) i false = true then true else if hb (uN f) i = true then true else false) = rsb (uN f) (i + 1) false := by
          unfold rsb hb
          rcases Nat.eq_zero_or_pos i with rfl | hp
          · simp [Nat.mod_one]
          · have e2 : i + 1 - 1 = i - 1 + 1 := by omega
            rw [e2, mod_succ]
            have p := pow_pos2 (i - 1)
            by_cases z : uN f % 2 ^ (i - 1) = 0
            · cases hb2 : (uN f).testBit (i - 1)
              · simp [z]
              · simp [z, hp]
            · have : ¬ (uN f % 2 ^ (i - 1) + ((uN f).testBit (i - 1)).toNat * 2 ^ (i - 1) = 0) := by omega
              simp [z]
        have t4 : (if jlrem v 2 = 0 then false else true) = hb (uN f) (i + 1) := by
          unfold hb
          simp only [lrem2, e1]
          have : i + 1 - 1 = i := by omega
          rw [this, ntb]
          have := Nat.mod_two_eq_zero_or_one (uN f / 2 ^ i)
          rcases this with q | q <;> rw [q] <;> simp
        simp only [c1, c2, if_false, t3, t4, nI_1]
      · rw [shr_max, e1, Nat.div_div_eq_div_mul, Nat.pow_succ]
    · intro t ⟨v, et, e1⟩
      subst et
      refine ⟨(nI m, rsb (uN f) m false, hb (uN f) m, v), ?_, v, rfl, e1⟩
      unfold b_MS_rounded_12
      by_cases c : n ≤ 70
      · have : nI n ≤ nI m := nI_le (by omega) (by omega)
        simp only [this, if_true]
      · have c1 : ¬ nI n ≤ nI m := nI_ge (by omega) (by omega)
        have c2 : (70 : Int32) ≤ nI m := nI_le (a := 70) (by omega) (by omega)
        simp only [c1, c2, if_false, if_true]
    · unfold upf
      have e1 : (nI n).toInt = n := nI_toInt (by omega)
      have e2 : (0 : Int32).toInt = 0 := rfl
      rw [e1, e2]
      omega
    · refine ⟨f, ?_, by simp⟩
      have e1 : rsb (uN f) 0 false = false := by
        unfold rsb
        simp [Nat.mod_one]
      have e2 : hb (uN f) 0 = false := by
        unfold hb
        simp
      rw [e1, e2]
      rfl
  -- what the end makes of it
  have c70 : (nI n ≤ 70) ↔ n ≤ 70 := nI_leI (b := 70) (by omega) (by decide)
  have d70 : (70 < nI n) ↔ 70 < n := nI_ltI (a := 70) (by decide) (by omega)
  have fin : (if rsb (uN f) m false = true then true else if nI n ≤ 70 then false else if hb (uN f) m = true then true else false) = x.2.2 ∧ (if hb (uN f) m = true then if 70 < nI n then false else true else false) = x.2.1 ∧ uN v = x.1 := by
    rw [hx, hv]
    simp only [c70, d70]
    by_cases c : n ≤ 70
    · have em : m = n := by omega
      have c' : ¬ 70 < n := by omega
      rw [em]
      refine ⟨?_, ?_, rfl⟩
      · simp only [c, if_true]
        cases rsb (uN f) n false <;> rfl
      · simp only [c', if_false]
        cases hb (uN f) n <;> rfl
    · have em : m = 70 := by omega
      have c' : 70 < n := by omega
      have big : ∀ k, 64 ≤ k → uN f < 2 ^ k := fun k hk => Nat.lt_of_lt_of_le bf (Nat.pow_le_pow_right (by decide) hk)
      have h70 : hb (uN f) 70 = false := by
        unfold hb
        rw [Nat.testBit_lt_two_pow (big _ (by decide))]
        rfl
      have hbn : hb (uN f) n = false := by
        unfold hb
        rw [Nat.testBit_lt_two_pow (big _ (by omega))]
        simp
      have r70 : rsb (uN f) 70 false = decide (uN f ≠ 0) := by
        unfold rsb
        rw [Nat.mod_eq_of_lt (big _ (by decide))]
        rfl
      have rn : rsb (uN f) n false = decide (uN f ≠ 0) := by
        unfold rsb
        rw [Nat.mod_eq_of_lt (big _ (by omega))]
        rfl
      rw [em, h70, r70, hbn, rn, Nat.div_eq_of_lt (big 70 (by decide)), Nat.div_eq_of_lt (big n (by omega))]
      refine ⟨?_, by simp, rfl⟩
      simp [c]
  obtain ⟨f1, f2, f3⟩ := fin
  have x63 : x.1 < 9223372036854775808 := by
    rw [hx]
    show uN f / 2 ^ n < _
    have : (2 : Nat) ^ 1 ≤ 2 ^ n := Nat.pow_le_pow_right (by decide) hn
    rw [Nat.div_lt_iff_lt_mul (pow_pos2 n)]
    have : 9223372036854775808 * 2 ≤ 9223372036854775808 * 2 ^ n := Nat.mul_le_mul_left _ (by omega)
    omega
  have ls : (if x.2.1 = true then true else if x.2.2 = true then true else false) = lossy x := by
    unfold lossy
    cases x.2.1 <;> cases x.2.2 <;> rfl
  have g27 : gI (sZ τ 36 42 (lossy x)) 27 42 = nI w := hwd
  have g36 : gZ (sZ τ 36 42 (lossy x)) 36 42 = lossy x := by simp [gZ_sZ]
  have wy : jrem (nI w / 1024) 4 = nI (wayOf w) := rem_M hw 1024 4 (by decide) (by decide) (by decide) (by decide)
  have odd : (jlrem v 2 = 1) ↔ x.1 % 2 = 1 := by rw [lrem2_1 (by rw [f3]; exact x63), f3]
  have up : (if nI (wayOf w) = 0 then if x.2.1 = true then if x.2.2 = true then true else if x.1 % 2 = 1 then true else false else false else if lossy x = true then if nI (wayOf w) = (if neg = true then (1 : Int32) else 2) then true else false else false) = upS (wayOf w) neg x := by
    have h4 : wayOf w = 0 ∨ wayOf w = 1 ∨ wayOf w = 2 ∨ wayOf w = 3 := by have := wayOf_lt w; omega
    unfold upS
    generalize lossy x = L
    generalize x.2.1 = X2
    generalize x.2.2 = X3
    rcases h4 with e | e | e | e <;> rw [e] <;> cases L <;> cases X2 <;> cases X3 <;> cases neg <;> first | rfl | (by_cases q : x.1 % 2 = 1 <;> simp [q]; done) | (by_cases q : x.1 % 2 = 1 <;> simp [q] <;> rfl)
  unfold f_MS_rounded f_MS_way
  simp only [hl, f1, f2, ls, g27, g36, wy, odd, up]
  cases hup : upS (wayOf w) neg x with
  | true =>
    refine ⟨v + 1, by simp, ?_⟩
    unfold rnd
    rw [hup, uN_add, f3]
    show (x.1 + 1) % 18446744073709551616 = x.1 + 1
    omega
  | false =>
    refine ⟨v, by simp, ?_⟩
    unfold rnd
    rw [hup, f3]
    rfl
