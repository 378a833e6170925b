/-! what the reference makes of its row -/
theorem hi_bit {W : Int64} (hW : W ≠ 0) (b : Int32 → Bool × Int32) (hb : ∀ t, b t = if jlshr W t &&& 1 = 0 then (true, t + (-1)) else (false, t)) : lpn b 65 63 = nI (uN W).log2 ∧ (uN W).log2 < 64 := by
  have h0 : uN W ≠ 0 := fun q => hW (uN_eq0.mpr q)
  have hl := uN_lt2 W
  have lg : Lg (uN W) (uN W).log2 := ⟨(Nat.le_log2 h0).mp (Nat.le_refl _), (Nat.log2_lt h0).mp (Nat.lt_succ_self _)⟩
  have l64 : (uN W).log2 < 64 := (Nat.log2_lt h0).mpr hl
  refine ⟨?_, l64⟩
  refine lpn_M (b := b) (fun t => ∃ d : Nat, d < 64 ∧ t = nI d ∧ uN W < 2 ^ (d + 1)) (fun t => t.toInt.toNat) (fun y => y = nI (uN W).log2) ?_ 65 63 (by decide) ⟨63, by decide, rfl, hl⟩
  intro t ⟨d, d1, d2, d3⟩
  subst d2
  rw [hb]
  by_cases c : (uN W).testBit d = true
  · right
    refine ⟨nI d, ?_, ?_⟩
    · have : ¬ (jlshr W (nI d) &&& 1 = 0) := fun q => by
        have := (bit0 W d rfl d1).mp q
        rw [this] at c
        cases c
      rw [if_neg this]
    · have g : 2 ^ d ≤ uN W := Nat.ge_two_pow_of_testBit c
      rw [Lg_log2 ⟨g, d3⟩]
  · left
    have cf : (uN W).testBit d = false := by simpa using c
    have hd0 : d ≠ 0 := fun q => by
      subst q
      rw [tb_ge d3] at cf
      simp at cf
      exact h0 cf
    obtain ⟨k, rfl⟩ : ∃ k, d = k + 1 := ⟨d - 1, by omega⟩
    refine ⟨nI k, ?_, ⟨k, by omega, rfl, ?_⟩, ?_⟩
    · rw [if_pos ((bit0 W (k + 1) rfl d1).mpr cf), pk_m1]
    · rw [tb_ge d3] at cf
      simp at cf
      exact cf
    · have e1 : (nI k).toInt = k := nI_toInt (by omega)
      have e2 : (nI (k + 1)).toInt = ((k + 1 : Nat) : Int) := nI_toInt (by omega)
      simp only [e1, e2]
      omega
theorem put_hi {W : Int64} (hW : W ≠ 0) : lpn (b_MO_put_32 W) 65 63 = nI (uN W).log2 ∧ (uN W).log2 < 64 := hi_bit hW (b_MO_put_32 W) (fun t => rfl)
/-- a number below the least power -/
theorem put_tiny {τ : St} {sg : Bool} {W : Int64} {n : Nat} {q : Int32} (hnd : n = 24 ∨ n = 53 ∨ n = 64) (hq : q.toInt = -16381 - n) (hX : uN W ≤ 2 ^ (n - 1)) :
    ∃ (pw : Int32) (F : Int64), f_MO_put τ sg W false q 0 = f_MO_answer τ sg pw F ∧ pw.toInt = (if 2 ^ 63 ≤ uN W * 2 ^ (64 - n) then 1 else 0) ∧ uN F = uN W * 2 ^ (64 - n) := by
  have hp : 2 ^ (n - 1) * 2 ^ (64 - n) = 2 ^ 63 := by rw [← Nat.pow_add]; congr 1; omega
  have hpp := pow_pos2 (64 - n)
  by_cases z : W = 0
  · refine ⟨0, 0, ?_, ?_, ?_⟩
    · unfold f_MO_put
      rw [if_pos z]
      rfl
    · rw [z, show uN 0 = 0 from rfl, Nat.zero_mul]
      rfl
    · rw [z]
      show 0 = 0 * _
      simp
  · obtain ⟨l1, l2⟩ := put_hi z
    have h0 : uN W ≠ 0 := fun q => z (uN_eq0.mpr q)
    have g1 : 2 ^ (uN W).log2 ≤ uN W := (Nat.le_log2 h0).mp (Nat.le_refl _)
    have g2 : uN W < 2 ^ ((uN W).log2 + 1) := (Nat.log2_lt h0).mp (Nat.lt_succ_self _)
    have ln : (uN W).log2 ≤ n - 1 := by
      refine Classical.byContradiction (fun w => ?_)
      have : 2 ^ (n - 1 + 1) ≤ 2 ^ (uN W).log2 := Nat.pow_le_pow_right (by decide) (by omega)
      have e : (2 : Nat) ^ (n - 1 + 1) = 2 ^ (n - 1) * 2 := Nat.pow_succ _ _
      have := pow_pos2 (n - 1)
      omega
    generalize hd : (uN W).log2 = d at *
    have e3 : (nI d).toInt = d := nI_toInt (by omega)
    have e4 : (16383 : Int32).toInt = 16383 := by decide
    have e0 : (0 : Int32).toInt = 0 := by decide
    have v1 : (q + nI d).toInt = -16381 - n + d := by rw [i32_addT (by omega) (by omega), hq, e3]
    have v2 : (q + nI d + 16383).toInt = -16381 - n + d + 16383 := by rw [i32_addT (by omega) (by omega), v1, e4]
    have v3 : (q + nI d + 16383 + 0).toInt = d + 2 - n := by rw [i32_addT (by omega) (by omega), v2, e0]; omega
    have q2 : q + 16445 = nI (64 - n) := by
      apply Int32.toInt_inj.mp
      have : (16445 : Int32).toInt = 16445 := by decide
      have e5 : (nI (64 - n)).toInt = ((64 - n : Nat) : Int) := nI_toInt (by omega)
      rw [i32_addT (by omega) (by omega), hq, this, e5]
      omega
    by_cases c : d = n - 1
    · have X1 : uN W = 2 ^ (n - 1) := by
        rw [c] at g1
        omega
      have c1 : ¬ (q + nI d + 16383 + 0 ≤ 0) := fun w => by
        have := Int32.le_iff_toInt_le.mp w
        omega
      refine ⟨q + nI d + 16383 + 0, jlshl W (63 - nI d), ?_, ?_, ?_⟩
      · unfold f_MO_put
        simp only [z, if_false, Bool.false_eq_true, l1, c1]
      · rw [X1, hp, if_pos (Nat.le_refl _), v3]
        omega
      · have e63 : (63 : Int32) - nI d = nI (63 - d) := pk_sub (a := 63) (by omega)
        rw [e63, uN_jlshl W (63 - d) rfl (by omega), X1]
        have : 63 - d = 64 - n := by omega
        rw [this, hp]
    · have c1 : q + nI d + 16383 + 0 ≤ 0 := by
        apply Int32.le_iff_toInt_le.mpr
        omega
      have lt : uN W * 2 ^ (64 - n) < 2 ^ 63 := by
        rw [← hp]
        refine Nat.mul_lt_mul_of_pos_right ?_ hpp
        exact Nat.lt_of_lt_of_le g2 (Nat.pow_le_pow_right (by decide) (by omega))
      refine ⟨0, jlshl W (q + 16445), ?_, ?_, ?_⟩
      · unfold f_MO_put
        simp only [z, if_false, Bool.false_eq_true, l1, c1, if_true]
      · rw [if_neg (by omega)]
        rfl
      · have e6 : 64 - n < 64 := by omega
        rw [q2, uN_jlshl W (64 - n) rfl e6, Nat.mod_eq_of_lt (by omega)]
/-- a number at its own place -/
theorem put_norm {τ : St} {sg : Bool} {W : Int64} {n X : Nat} {q mv : Int32} {k : Int} (hnd : n = 24 ∨ n = 53 ∨ n = 64) (hq : q.toInt = k + 1 - n) (hk : -40000 ≤ k ∧ k ≤ 40000) (hmv : -30000 ≤ mv.toInt ∧ mv.toInt ≤ 30000) (hX : 2 ^ (n - 1) ≤ X ∧ X ≤ 2 ^ n) (hW : uN W = X % 2 ^ 64) (hpos : 0 < k + 16383 + mv.toInt) (wr : Bool) (hwr : wr = decide (n = 64 ∧ W = 0)) :
    ∃ (pw : Int32) (F : Int64), f_MO_put τ sg W wr q mv = f_MO_answer τ sg pw F ∧ pw.toInt = k + 16383 + mv.toInt + (if X = 2 ^ n then 1 else 0) ∧ uN F = (if X = 2 ^ n then 2 ^ 63 else X * 2 ^ (64 - n)) := by
  have e4 : (16383 : Int32).toInt = 16383 := by decide
  have pn := pow_pos2 (n - 1)
  have hp : 2 ^ n * 2 ^ (64 - n) = 2 ^ 64 := by rw [← Nat.pow_add]; congr 1; omega
  have gen : ∀ d : Nat, d ≤ 64 → (q + nI d + 16383 + mv).toInt = k + 1 - n + d + 16383 + mv.toInt := fun d hd => by
    have e3 : (nI d).toInt = d := nI_toInt (by omega)
    have v1 : (q + nI d).toInt = k + 1 - n + d := by rw [i32_addT (by omega) (by omega), hq, e3]
    have v2 : (q + nI d + 16383).toInt = k + 1 - n + d + 16383 := by rw [i32_addT (by omega) (by omega), v1, e4]
    rw [i32_addT (by omega) (by omega), v2]
  by_cases z : W = 0
  · -- it wraps
    have u0 : uN W = 0 := uN_eq0.mp z
    have n64 : n = 64 := by
      refine Classical.byContradiction (fun w => ?_)
      rw [u0] at hW
      rcases hnd with rfl | rfl | rfl
      · omega
      · omega
      · exact w rfl
    subst n64
    have X1 : X = 2 ^ 64 := by omega
    have w1 : wr = true := by rw [hwr]; simp [z]
    have e64 : (64 : Int32) = nI 64 := rfl
    have g := gen 64 (Nat.le_refl _)
    have c1 : ¬ (q + 64 + 16383 + mv ≤ 0) := fun w => by
      have := Int32.le_iff_toInt_le.mp w
      rw [e64, g] at this
      have e0 : (0 : Int32).toInt = 0 := rfl
      omega
    refine ⟨q + 64 + 16383 + mv, -9223372036854775808, ?_, ?_, ?_⟩
    · unfold f_MO_put
      simp only [z, w1, if_true]
      rw [if_neg c1]
    · rw [e64, g, if_pos X1]
      omega
    · rw [if_pos X1]
      rfl
  · have w1 : wr = false := by rw [hwr]; simp [z]
    have h0 : uN W ≠ 0 := fun q => z (uN_eq0.mpr q)
    have X64 : X < 2 ^ 64 := by
      refine Classical.byContradiction (fun w => ?_)
      have : 2 ^ n ≤ 2 ^ 64 := Nat.pow_le_pow_right (by decide) (by omega)
      have : X = 2 ^ 64 := by omega
      rw [this] at hW
      omega
    have hWX : uN W = X := by rw [hW, Nat.mod_eq_of_lt X64]
    obtain ⟨l1, l2⟩ := put_hi z
    rw [hWX] at l1 l2
    have c1 : ∀ d : Nat, d ≤ 64 → n - 1 ≤ d → ¬ (q + nI d + 16383 + mv ≤ 0) := fun d h1 h2 w => by
      have := Int32.le_iff_toInt_le.mp w
      rw [gen d h1] at this
      have e0 : (0 : Int32).toInt = 0 := rfl
      omega
    have body : ∀ d : Nat, d < 64 → n - 1 ≤ d → X.log2 = d → f_MO_put τ sg W wr q mv = f_MO_answer τ sg (q + nI d + 16383 + mv) (jlshl W (63 - nI d)) := fun d h1 h2 h3 => by
      unfold f_MO_put
      rw [w1]
      simp only [z, if_false, Bool.false_eq_true, l1, h3, c1 d (by omega) h2]
    by_cases c : X = 2 ^ n
    · have n64 : n < 64 := by
        refine Classical.byContradiction (fun w => ?_)
        have : n = 64 := by omega
        subst this
        omega
      have hd : X.log2 = n := Lg_log2 ⟨by omega, by rw [c]; exact Nat.pow_lt_pow_right (by decide) (by omega)⟩
      refine ⟨_, _, body n n64 (by omega) hd, ?_, ?_⟩
      · rw [gen n (by omega), if_pos c]
        omega
      · have e63 : (63 : Int32) - nI n = nI (63 - n) := pk_sub (a := 63) (by omega)
        rw [if_pos c, e63, uN_jlshl W (63 - n) rfl (by omega), hWX, c, ← Nat.pow_add]
        have : n + (63 - n) = 63 := by omega
        rw [this]
    · have hn1 : n - 1 + 1 = n := by omega
      have hd : X.log2 = n - 1 := Lg_log2 ⟨hX.1, by rw [hn1]; omega⟩
      refine ⟨_, _, body (n - 1) (by omega) (Nat.le_refl _) hd, ?_, ?_⟩
      · rw [gen (n - 1) (by omega), if_neg c]
        omega
      · have e63 : (63 : Int32) - nI (n - 1) = nI (63 - (n - 1)) := pk_sub (a := 63) (by omega)
        have e64 : 63 - (n - 1) = 64 - n := by omega
        rw [if_neg c, e63, uN_jlshl W (63 - (n - 1)) rfl (by omega), hWX, e64, Nat.mod_eq_of_lt]
        show X * 2 ^ (64 - n) < 2 ^ 64
        rw [← hp]
        exact Nat.mul_lt_mul_of_pos_right (by omega) (pow_pos2 _)
theorem RQ_1 (N : Nat) (s : Bool) (u q : Int) : (RQ N s u q).1 = shZ N (q - u) := by
  unfold RQ shZ
  by_cases c : u ≤ q
  · rw [if_pos c, if_pos (by omega)]
  · rw [if_neg c, if_neg (by omega)]
    have : (u - q).toNat = (-(q - u)).toNat := by omega
    rw [this]
theorem shZ_Lg {N t n : Nat} (h : Lg N t) (hn : 1 ≤ n) : Lg (shZ N ((t : Int) + 1 - n)) (n - 1) := by
  unfold shZ
  by_cases c : 0 ≤ (t : Int) + 1 - n
  · rw [if_pos c]
    apply Lg_div
    have : n - 1 + ((t : Int) + 1 - n).toNat = t := by omega
    rw [this]
    exact h
  · rw [if_neg c]
    have := Lg_mul h (-((t : Int) + 1 - n)).toNat
    have e : t + (-((t : Int) + 1 - n)).toNat = n - 1 := by omega
    rw [e] at this
    exact this
theorem shZ_lt {N t n : Nat} (h : Lg N t) (i : Int) (hi : (t : Int) + 1 ≤ (n : Int) + i) : shZ N i < 2 ^ n := by
  have h2 := h.2
  unfold shZ
  by_cases c : 0 ≤ i
  · rw [if_pos c, Nat.div_lt_iff_lt_mul (pow_pos2 _), ← Nat.pow_add]
    exact Nat.lt_of_lt_of_le h2 (Nat.pow_le_pow_right (by decide) (by omega))
  · rw [if_neg c]
    have : 2 ^ n = 2 ^ (n - (-i).toNat) * 2 ^ (-i).toNat := by rw [← Nat.pow_add]; congr 1; omega
    rw [this]
    refine Nat.mul_lt_mul_of_pos_right ?_ (pow_pos2 _)
    exact Nat.lt_of_lt_of_le h2 (Nat.pow_le_pow_right (by decide) (by omega))
theorem digits_M {τ : St} {w : Nat} (hwd : gI τ 16 35 = nI w) (hw : w < 65536) : f_MO_digits τ = nI (digitsOf w) := by
  unfold f_MO_digits digitsOf
  have e : jrem (nI w / 256) 4 = nI (w / 256 % 4) := rem_M hw 256 4 (by decide) (by decide) (by decide) (by decide)
  rw [hwd, e]
  have h4 : w / 256 % 4 = 0 ∨ w / 256 % 4 = 1 ∨ w / 256 % 4 = 2 ∨ w / 256 % 4 = 3 := by omega
  rcases h4 with h | h | h | h <;> rw [h] <;> decide
theorem nd3 (w : Nat) : digitsOf w = 24 ∨ digitsOf w = 53 ∨ digitsOf w = 64 := by
  unfold digitsOf
  (repeat' split) <;> simp
theorem q_tiny {d : Nat} (hd : d ≤ 64) : ((-16381 : Int32) - nI d).toInt = -16381 - d := by
  have e1 : (-16381 : Int32).toInt = -16381 := by decide
  have ed : (nI d).toInt = d := nI_toInt (by omega)
  rw [i32_subT (by omega) (by omega), e1, ed]
theorem q_sum {U : Int32} {t : Nat} {u : Int} (hu : U.toInt = u) (hub : -38000 ≤ u ∧ u ≤ 38000) (ht : t < 33000) : (U + nI t).toInt = u + t := by
  have et : (nI t).toInt = t := nI_toInt (by omega)
  rw [i32_addT (by omega) (by omega), hu, et]
theorem q_norm {V : Int32} {d : Nat} {k : Int} (hk : V.toInt = k) (hkb : -38000 ≤ k ∧ k ≤ 38000) (hd : d ≤ 64) : (V + 1 - nI d).toInt = k + 1 - d := by
  have e1 : (1 : Int32).toInt = 1 := by decide
  have ed : (nI d).toInt = d := nI_toInt (by omega)
  have e2 : (V + 1).toInt = k + 1 := by rw [i32_addT (by omega) (by omega), hk, e1]
  rw [i32_subT (by omega) (by omega), e2, ed]
theorem le_m16382 {V : Int32} {k : Int} (hk : V.toInt = k) : ((-16382 : Int32) ≤ V) ↔ ¬ k < -16382 := by
  rw [Int32.le_iff_toInt_le, hk, show (-16382 : Int32).toInt = -16382 by decide]
  omega
theorem ge_16384 {V : Int32} {k : Int} (hk : V.toInt = k) (hkb : -38000 ≤ k ∧ k ≤ 38000) (b : Bool) : ((16384 : Int32) ≤ V + bI b) ↔ ¬ k + 16383 + (if b = true then 1 else 0) < 32767 := by
  have e1 : (bI b).toInt = if b = true then 1 else 0 := by cases b <;> rfl
  have e3 : (V + bI b).toInt = k + (if b = true then 1 else 0) := by
    rw [i32_addT (by rw [e1, hk]; split <;> omega) (by rw [e1, hk]; split <;> omega), hk, e1]
  rw [Int32.le_iff_toInt_le, e3, show (16384 : Int32).toInt = 16384 by decide]
  split <;> omega
/-- carried to one digit more -/
theorem longer_M {W : Int64} {d X : Nat} (nd : d = 24 ∨ d = 53 ∨ d = 64) (h1 : X ≤ 2 ^ d) (h0 : 0 < X) (c2 : uN W = X % 2 ^ 64) : (if decide (d = 64 ∧ W = 0) = true then true else if 64 ≤ nI d then false else if jlshr W (nI d) = 0 then false else true) = decide (X = 2 ^ d) := by
  by_cases a : d = 64
  · subst a
    have c64 : (64 : Int32) ≤ nI 64 := by decide
    have : (W = 0) ↔ X = 2 ^ 64 := by
      rw [uN_eq0, c2]
      omega
    simp only [c64, if_true, this]
    by_cases b : X = 2 ^ 64 <;> simp [b]
  · have d53 : d ≤ 53 := by
      rcases nd with q | q | q <;> omega
    have c64 : ¬ (64 : Int32) ≤ nI d := nI_ge (b := 64) (by omega) (by decide)
    have p53 : (2 : Nat) ^ d ≤ 2 ^ 53 := Nat.pow_le_pow_right (by decide) d53
    have X63 : X < 2 ^ 63 := Nat.lt_of_le_of_lt (Nat.le_trans h1 p53) (by decide)
    have X64 : X < 2 ^ 64 := Nat.lt_trans X63 (by decide)
    rw [Nat.mod_eq_of_lt X64] at c2
    have c2b : W.toBitVec.toNat = X := c2
    have sh : uN (jlshr W (nI d)) = X / 2 ^ d := by
      -- W is not below 0
      have e1 : (jlshr W (nI d)).toBitVec = W.toBitVec.sshiftRight d := by
        unfold jlshr
        rw [Int64.toBitVec_shiftRight, BitVec.sshiftRight', sh_c d (by omega)]
      have e2 : W.toBitVec.msb = false := by
        rw [BitVec.msb_eq_decide, c2b]
        exact decide_eq_false (by omega)
      have e3 : uN (jlshr W (nI d)) = (jlshr W (nI d)).toBitVec.toNat := rfl
      rw [e3, e1, BitVec.sshiftRight_eq_of_msb_false e2, BitVec.toNat_ushiftRight, Nat.shiftRight_eq_div_pow, c2b]
    have cz : (jlshr W (nI d) = 0) ↔ ¬ X = 2 ^ d := by
      rw [uN_eq0, sh]
      constructor
      · intro q e
        rw [e, Nat.div_self (pow_pos2 d)] at q
        exact absurd q (by decide)
      · intro q
        exact Nat.div_eq_of_lt (Nat.lt_of_le_of_ne h1 q)
    have : ¬ (d = 64 ∧ W = 0) := fun q => a q.1
    simp only [this, decide_false, Bool.false_eq_true, if_false, c64, cz]
    by_cases b : X = 2 ^ d <;> simp [b]
theorem wr_M {W : Int64} {d : Nat} (hd : d ≤ 64) : (if nI d = 64 then if W = 0 then true else false else false) = decide (d = 64 ∧ W = 0) := by
  have : (nI d = 64) ↔ d = 64 := nI_eq (b := 64) (by omega) (by decide)
  simp only [this]
  by_cases a : d = 64 <;> by_cases b : W = 0 <;> simp [a, b]
theorem inf_M (w : Nat) (sg : Bool) : (if nI (wayOf w) = 0 then true else if nI (wayOf w) = (if sg = true then (1 : Int32) else 2) then true else false) = infS (wayOf w) sg := by
  have h4 : wayOf w = 0 ∨ wayOf w = 1 ∨ wayOf w = 2 ∨ wayOf w = 3 := by have := wayOf_lt w; omega
  unfold infS
  rcases h4 with e | e | e | e <;> rw [e] <;> cases sg <;> decide
/-- what is told, the sign, the power and the fraction, behind a making -/
def mkst (τ : St) (b : Bool) (T : Nat) (sg : Bool) (pw : Int32) (F : Int64) : St := f_MO_answer (sI (sZ τ 25 35 b) 21 35 (nI T)) sg pw F
theorem b104_M {τ : St} {w d X t0 : Nat} {k : Int} {V Q : Int32} {W : Int64} {x : Nat × Bool × Bool} {sg tn : Bool} (hwd : gI τ 16 35 = nI w) (hw : w < 65536) (nd : d = 24 ∨ d = 53 ∨ d = 64) (hk : V.toInt = k) (hkb : -38000 ≤ k ∧ k ≤ 38000) (hQ : V + 1 - nI d = Q) (c1 : f_MO_times τ Q sg = (W, sZ τ 25 35 (lossy x))) (c2 : uN W = X % 2 ^ 64) (hX : 2 ^ (d - 1) ≤ X ∧ X ≤ 2 ^ d) (ht : gI τ 21 35 = nI t0) (htn : tn = decide (k < -16382)) :
    ∃ (pw : Int32) (F : Int64) (T : Nat), f_MO_make_b104 τ sg V (nI d) tn = mkst τ (lossy x) (t0 + T) sg pw F ∧
     ((k < -16382 ∧ T = 16 + (if lossy x then 32 else 0) ∧ pw.toInt = k + 16383 + 24576 + (if X = 2 ^ d then 1 else 0) ∧ uN F = (if X = 2 ^ d then 2 ^ 63 else X * 2 ^ (64 - d))) ∨
      (¬ k < -16382 ∧ k + 16383 + (if X = 2 ^ d then 1 else 0) < 32767 ∧ T = (if lossy x then 32 else 0) ∧ pw.toInt = k + 16383 + (if X = 2 ^ d then 1 else 0) ∧ uN F = (if X = 2 ^ d then 2 ^ 63 else X * 2 ^ (64 - d))) ∨
      (¬ k < -16382 ∧ ¬ k + 16383 + (if X = 2 ^ d then 1 else 0) < 32767 ∧ w / 8 % 2 = 1 ∧ T = 40 ∧ pw.toInt = (if infS (wayOf w) sg then 32767 else 32766) ∧ uN F = (if infS (wayOf w) sg then 2 ^ 63 else (2 ^ d - 1) * 2 ^ (64 - d))) ∨
      (¬ k < -16382 ∧ ¬ k + 16383 + (if X = 2 ^ d then 1 else 0) < 32767 ∧ ¬ w / 8 % 2 = 1 ∧ T = 8 + (if lossy x then 32 else 0) ∧ pw.toInt = k + 16383 - 24576 + (if X = 2 ^ d then 1 else 0) ∧ uN F = (if X = 2 ^ d then 2 ^ 63 else X * 2 ^ (64 - d)))) := by
  have d64 : d ≤ 64 := by rcases nd with q | q | q <;> omega
  have q1 := q_norm hk hkb d64
  rw [hQ] at q1
  have m8 : (nI w &&& 8 = 0) ↔ ¬ w / 8 % 2 = 1 := nI_bit hw (i := 3) (by decide)
  have g25 : gZ (sZ τ 25 35 (lossy x)) 25 35 = lossy x := by simp [gZ_sZ]
  have g21 : gI (sZ τ 25 35 (lossy x)) 21 35 = nI t0 := ht
  have wr := wr_M (W := W) d64
  have h0 : 0 < X := Nat.lt_of_lt_of_le (pow_pos2 _) hX.1
  have lon := longer_M nd hX.2 h0 c2
  have tl : (if lossy x = true then nI t0 + 32 else nI t0) = nI (t0 + (if lossy x = true then 32 else 0)) := by
    cases lossy x
    · rfl
    · exact nI_add t0 32
  have putc : ∀ (mv : Int32) (T : Nat), -30000 ≤ mv.toInt ∧ mv.toInt ≤ 30000 → 0 < k + 16383 + mv.toInt → ∃ (pw : Int32) (F : Int64), f_MO_put (sI (sZ τ 25 35 (lossy x)) 21 35 (nI T)) sg W (decide (d = 64 ∧ W = 0)) Q mv = mkst τ (lossy x) T sg pw F ∧ pw.toInt = k + 16383 + mv.toInt + (if X = 2 ^ d then 1 else 0) ∧ uN F = (if X = 2 ^ d then 2 ^ 63 else X * 2 ^ (64 - d)) := fun mv T h1 h2 => put_norm nd q1 ⟨by omega, by omega⟩ h1 hX c2 h2 _ rfl
  have cO : ((16384 : Int32) ≤ V + bI (if decide (X = 2 ^ d) = true then true else false)) ↔ ¬ k + 16383 + (if X = 2 ^ d then 1 else 0) < 32767 := by
    have e0 : (if decide (X = 2 ^ d) = true then true else false) = decide (X = 2 ^ d) := by cases decide (X = 2 ^ d) <;> rfl
    rw [e0, ge_16384 hk hkb]
    simp only [decide_eq_true_eq]
  have e2 : (24576 : Int32).toInt = 24576 := by decide
  have e3 : (-24576 : Int32).toInt = -24576 := by decide
  have e4 : (0 : Int32).toInt = 0 := by decide
  clear hk q1
  generalize hY : (if X = 2 ^ d then (1 : Int) else 0) = Y at *
  have hY2 : Y = 0 ∨ Y = 1 := by
    rw [← hY]
    split
    · exact Or.inr rfl
    · exact Or.inl rfl
  generalize hFF : (if X = 2 ^ d then 2 ^ 63 else X * 2 ^ (64 - d)) = FF at *
  have gF : uN (jlshl (-1) (64 - nI d)) = (2 ^ d - 1) * 2 ^ (64 - d) := by rcases nd with rfl | rfl | rfl <;> decide
  clear hY hFF c2 hX h0 nd
  have sI2 : ∀ A B : Nat, A = B → sI (sI (sZ τ 25 35 (lossy x)) 21 35 (nI (t0 + (if lossy x = true then 32 else 0)))) 21 35 (nI A) = sI (sZ τ 25 35 (lossy x)) 21 35 (nI B) := fun A B q => by rw [sI_sI, q]
  have g21b : gI (sI (sZ τ 25 35 (lossy x)) 21 35 (nI (t0 + (if lossy x = true then 32 else 0)))) 21 35 = nI (t0 + (if lossy x = true then 32 else 0)) := by simp [gI_sI]
  unfold f_MO_make_b104
  simp only [hQ, c1, wr, lon, g25, g21, tl]
  by_cases ht1 : k < -16382
  · obtain ⟨pw, F, p1, p2, p3⟩ := putc 24576 (t0 + (16 + (if lossy x = true then 32 else 0))) (by decide) (by rw [e2]; omega)
    refine ⟨pw, F, 16 + (if lossy x = true then 32 else 0), ?_, Or.inl ⟨ht1, rfl, ?_, p3⟩⟩
    · rw [← p1]
      have : tn = true := by rw [htn]; exact decide_eq_true ht1
      simp only [this, if_true, g21b]
      rw [show nI (t0 + (if lossy x = true then 32 else 0)) + 16 = nI (t0 + (if lossy x = true then 32 else 0) + 16) from nI_add _ 16, sI2 _ (t0 + (16 + (if lossy x = true then 32 else 0))) (by omega)]
    · rw [p2, e2]
  · have tnf : tn = false := by rw [htn]; exact decide_eq_false ht1
    by_cases ho : k + 16383 + Y < 32767
    · obtain ⟨pw, F, p1, p2, p3⟩ := putc 0 (t0 + (if lossy x = true then 32 else 0)) (by decide) (by rw [e4]; omega)
      refine ⟨pw, F, (if lossy x = true then 32 else 0), ?_, Or.inr (Or.inl ⟨ht1, ho, rfl, ?_, p3⟩)⟩
      · rw [← p1]
        have c4 : ¬ ((16384 : Int32) ≤ V + bI (if decide (X = 2 ^ d) = true then true else false)) := fun q => (cO.mp q) ho
        simp only [tnf, Bool.false_eq_true, if_false, c4]
      · rw [p2, e4]
        omega
    · have c4 : ((16384 : Int32) ≤ V + bI (if decide (X = 2 ^ d) = true then true else false)) := cO.mpr ho
      have g16 : gI (sI (sZ τ 25 35 (lossy x)) 21 35 (nI (t0 + (if lossy x = true then 32 else 0)))) 16 35 = nI w := hwd
      by_cases hm8 : w / 8 % 2 = 1
      · have c5 : ¬ (nI w &&& 8 = 0) := fun q => (m8.mp q) hm8
        refine ⟨if infS (wayOf w) sg = true then 32767 else 32766, if infS (wayOf w) sg = true then -9223372036854775808 else jlshl (-1) (64 - nI d), 40, ?_, Or.inr (Or.inr (Or.inl ⟨ht1, ho, hm8, rfl, ?_, ?_⟩))⟩
        · have g25b : gZ (sI (sZ τ 25 35 (lossy x)) 21 35 (nI (t0 + (if lossy x = true then 32 else 0)))) 25 35 = lossy x := g25
          have tl2 : nI (t0 + (if lossy x = true then 32 else 0)) + 8 + (if lossy x = true then 0 else 32) = nI (t0 + 40) := by
            cases lossy x
            · show nI (t0 + 0) + nI 8 + nI 32 = nI (t0 + 40)
              rw [nI_add, nI_add]
            · show nI (t0 + 32) + nI 8 + nI 0 = nI (t0 + 40)
              rw [nI_add, nI_add]
          have g16c : gI (sI (sZ τ 25 35 (lossy x)) 21 35 (nI (t0 + 40))) 16 35 = nI w := hwd
          have wy : jrem (nI w / 1024) 4 = nI (wayOf w) := rem_M (by assumption) 1024 4 (by decide) (by decide) (by decide) (by decide)
          simp only [tnf, Bool.false_eq_true, if_false, c4, if_true, g16, c5, g21b, g25b, tl2, sI_sI, g16c, wy, inf_M]
          unfold mkst
          split <;> rfl
        · split <;> rfl
        · split
          · rfl
          · exact gF
      · have c5 : nI w &&& 8 = 0 := m8.mpr hm8
        obtain ⟨pw, F, p1, p2, p3⟩ := putc (-24576) (t0 + (8 + (if lossy x = true then 32 else 0))) (by decide) (by rw [e3]; omega)
        refine ⟨pw, F, 8 + (if lossy x = true then 32 else 0), ?_, Or.inr (Or.inr (Or.inr ⟨ht1, ho, hm8, rfl, ?_, p3⟩))⟩
        · rw [← p1]
          simp only [tnf, Bool.false_eq_true, if_false, c4, if_true, g16, c5, g21b]
          rw [show nI (t0 + (if lossy x = true then 32 else 0)) + 8 = nI (t0 + (if lossy x = true then 32 else 0) + 8) from nI_add _ 8, sI2 _ (t0 + (8 + (if lossy x = true then 32 else 0))) (by omega)]
        · rw [p2, e3]
          omega
