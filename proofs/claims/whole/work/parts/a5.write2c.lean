/-! floating numbers: patterns -/
def dpc (d p c : Nat) : Prop := (d = 24 ∧ p = 8 ∧ c = 4) ∨ (d = 53 ∧ p = 11 ∧ c = 8)
theorem und_b {d p : Nat} {A : Re} (w : Nat) (hd : 2 ≤ d) (z : A.2.2 ≠ 0) (h : expS A < 2 - ((2 ^ (p - 1) : Nat) : Int)) : rnd (wayOf w) A.1 (undX d p A) ≤ 2 ^ (d - 1) := by
  have lg : Lg A.2.2 A.2.2.log2 := ⟨(Nat.le_log2 z).mp (Nat.le_refl _), (Nat.log2_lt z).mp (Nat.lt_succ_self _)⟩
  have xe : expS A = unitN A.2.1 + (A.2.2.log2 : Int) := rfl
  have l : (undX d p A).1 < 2 ^ (d - 1) := by
    unfold undX
    rw [RQ_1]
    exact shZ_lt lg _ (by omega)
  have := (rnd_le (wayOf w) A.1 (undX d p A)).2
  omega
theorem nor_b {d : Nat} {A : Re} (w : Nat) (hd : 2 ≤ d) (z : A.2.2 ≠ 0) : 2 ^ (d - 1) ≤ rnd (wayOf w) A.1 (norX d A) ∧ rnd (wayOf w) A.1 (norX d A) ≤ 2 ^ d := by
  have lg : Lg A.2.2 A.2.2.log2 := ⟨(Nat.le_log2 z).mp (Nat.le_refl _), (Nat.log2_lt z).mp (Nat.lt_succ_self _)⟩
  have xe : expS A = unitN A.2.1 + (A.2.2.log2 : Int) := rfl
  have l : Lg (norX d A).1 (d - 1) := by
    unfold norX
    rw [RQ_1]
    have e : expS A + 1 - d - unitN A.2.1 = (A.2.2.log2 : Int) + 1 - d := by omega
    rw [e]
    exact shZ_Lg lg (by omega)
  have r := rnd_le (wayOf w) A.1 (norX d A)
  have l2 := l.2
  rw [show d - 1 + 1 = d by omega] at l2
  exact ⟨Nat.le_trans l.1 r.1, by omega⟩
theorem norP_le {d p : Nat} {A : Re} (w : Nat) (hd : 2 ≤ d) (hp : 2 ≤ p) (z : A.2.2 ≠ 0) (h : expS A < ((2 ^ (p - 1) : Nat) : Int)) : norP w d p A ≤ allW d p ∧ (expS A + ((2 ^ (p - 1) : Nat) : Int) - 2).toNat * 2 ^ (d - 1) < allW d p := by
  have n := (nor_b w hd z).2
  have pd : (2 : Nat) ^ d = 2 * 2 ^ (d - 1) := by
    rw [show d = (d - 1) + 1 by omega, Nat.pow_succ, Nat.add_sub_cancel, Nat.mul_comm]
  have pp : (2 : Nat) ^ p = 2 * 2 ^ (p - 1) := by
    rw [show p = (p - 1) + 1 by omega, Nat.pow_succ, Nat.add_sub_cancel, Nat.mul_comm]
  have p2 : (2 : Nat) ≤ 2 ^ (p - 1) := Nat.pow_le_pow_right (n := 2) (i := 1) (by decide) (by omega)
  have k : (expS A + ((2 ^ (p - 1) : Nat) : Int) - 2).toNat + 2 ≤ 2 ^ p - 1 := by omega
  have k2 := Nat.mul_le_mul_right (2 ^ (d - 1)) k
  have d0 := pow_pos2 (d - 1)
  rw [Nat.add_mul] at k2
  unfold norP allW
  generalize (expS A + ((2 ^ (p - 1) : Nat) : Int) - 2).toNat * 2 ^ (d - 1) = X at *
  generalize (2 ^ p - 1) * 2 ^ (d - 1) = Y at *
  omega
theorem allW_c {d p c : Nat} (h : dpc d p c) : allW d p + 2 ^ (d - 1) = 2 ^ (d + p - 1) ∧ 2 ^ (d + p - 1) ≤ 9223372036854775808 ∧ 0 < 2 ^ (d - 2) ∧ 2 ^ (d - 2) + 2 ^ (d - 2) = 2 ^ (d - 1) ∧ 2 ^ (d - 1) ≤ allW d p ∧ 2 ^ d ≤ allW d p ∧ 2 ^ (p - 1) ≤ 1024 := by
  rcases h with ⟨rfl, rfl, rfl⟩ | ⟨rfl, rfl, rfl⟩ <;> decide
theorem flo_1 {d p c : Nat} (h : dpc d p c) : uN (jlshl (jlshl 1 (8 * nI c - nI d) - 1) (nI d - 1)) = allW d p := by
  have u1 : uN 1 = 1 := rfl
  rcases h with ⟨rfl, rfl, rfl⟩ | ⟨rfl, rfl, rfl⟩
  · rw [uN_jlshl _ 23 (by decide) (by decide), uN_sub, uN_jlshl _ 8 (by decide) (by decide), u1]
    rfl
  · rw [uN_jlshl _ 52 (by decide) (by decide), uN_sub, uN_jlshl _ 11 (by decide) (by decide), u1]
    rfl
theorem flo_2 {d p c : Nat} (h : dpc d p c) : uN (jlshl 1 (8 * nI c - 1)) = 2 ^ (d + p - 1) ∧ uN (jlshl 1 (nI d - 1 - 1)) = 2 ^ (d - 2) := by
  have u1 : uN 1 = 1 := rfl
  rcases h with ⟨rfl, rfl, rfl⟩ | ⟨rfl, rfl, rfl⟩
  · rw [uN_jlshl _ 31 (by decide) (by decide), uN_jlshl _ 22 (by decide) (by decide), u1]
    decide
  · rw [uN_jlshl _ 63 (by decide) (by decide), uN_jlshl _ 51 (by decide) (by decide), u1]
    decide
theorem flo_3 {d p c : Nat} (h : dpc d p c) : jshl 1 (8 * nI c - nI d - 1) = nI (2 ^ (p - 1)) ∧ nI d - 1 = nI (d - 1) ∧ (64 : Int32) - (nI d - 1) = nI (65 - d) ∧ (128 : Int32) - nI d = nI (128 - d) ∧ 24 ≤ d ∧ d ≤ 53 ∧ 8 ≤ p ∧ p ≤ 11 ∧ c ≤ 8 ∧ 256 ^ c = 2 ^ (d + p) ∧ (nI d).toInt = d ∧ (nI (2 ^ (p - 1))).toInt = ((2 ^ (p - 1) : Nat) : Int) := by
  rcases h with ⟨rfl, rfl, rfl⟩ | ⟨rfl, rfl, rfl⟩ <;> decide
theorem l_le {x y : Int64} (hx : uN x < 9223372036854775808) (hy : uN y < 9223372036854775808) : x ≤ y ↔ uN x ≤ uN y := by
  rw [Int64.le_iff_toInt_le, uN_int x, uN_int y, if_pos (by omega), if_pos (by omega)]
  omega
theorem infs_c {w : Nat} {s : St} {a : Nat} {mi : Bool} {v : Int64} (hs : gI s 6 3 = nI w) (hw : w < 65536) (hm : gZ s 15 a = mi) (T : Nat) (hv : 0 < uN v) : ∃ K : Int64, f_Wr_numberPattern_b222 a v s = (K, f_Ctl_tell s (nI (if w / 8 % 2 = 1 then 40 else 8))) ∧ uN K = (if infS (wayOf w) mi then uN v else uN v - 1) := by
  have e : (if decide (w / 8 % 2 = 1) = true then (40 : Int32) else 8) = nI (if w / 8 % 2 = 1 then 40 else 8) := by
    by_cases c : w / 8 % 2 = 1
    · rw [decide_eq_true c, if_pos c]
      rfl
    · rw [decide_eq_false c, if_neg c]
      rfl
  unfold f_Wr_numberPattern_b222
  rw [masks8 hs hw, e]
  dsimp only
  have i1 := infin_eq (σ := f_Ctl_tell s (nI (if w / 8 % 2 = 1 then 40 else 8))) hs hw mi
  have m1 : gZ (f_Ctl_tell s (nI (if w / 8 % 2 = 1 then 40 else 8))) 15 a = mi := hm
  rw [m1, i1]
  refine ⟨_, rfl, ?_⟩
  have b := uN_lt v
  have u1 : uN 1 = 1 := rfl
  cases infS (wayOf w) mi with
  | true =>
    rw [if_pos (rfl : true = true), if_pos (rfl : true = true)]
  | false =>
    rw [if_neg Bool.false_ne_true, if_neg Bool.false_ne_true, uN_sub, u1]
    omega
theorem numberPattern_C {σ : St} {w a d p c : Nat} {A : Re} {v : Int64} (hdp : dpc d p c) (ha : RealIs σ a A.1 A.2.1 A.2.2) (hl : Loaded σ 9 A.2.2 (unitN A.2.1)) (z : A.2.2 ≠ 0) (hs : gI σ 6 3 = nI w) (hw : w < 65536) (hv : uN v = allW d p) : ∃ (ρ : St) (K : Int64), frS σ ρ ∧ f_Wr_numberPattern σ a (nI d) (nI (2 ^ (p - 1))) v = (K, f_Ctl_tell ρ (nI (numW w d p A).1)) ∧ uN K = (numW w d p A).2 ∧ (numW w d p A).2 ≤ allW d p ∧ (numW w d p A).1 < 64 := by
  obtain ⟨a1, a2, a3, a4, a5, a6, a7⟩ := allW_c hdp
  obtain ⟨-, -, -, b4, b5, b6, b7, b8, -, -, b9, b10⟩ := flo_3 hdp
  have q0 := pow_pos2 (p - 1)
  have er := unitN_rng ha.2.2.2
  obtain ⟨lx, l64⟩ := Loaded_exp hl z
  have xe : expS A = unitN A.2.1 + (A.2.2.log2 : Int) := rfl
  have ex := exp_C hl ⟨by omega, by omega⟩
  rw [if_neg z, ← xe] at ex
  have way4 : wayOf w ≤ 4 := by have := wayOf_lt w; omega
  have e2 : (2 : Int32).toInt = 2 := by decide
  have e3 : (3 : Int32).toInt = 3 := by decide
  have s2 : ((2 : Int32) - nI (2 ^ (p - 1))).toInt = 2 - ((2 ^ (p - 1) : Nat) : Int) := by rw [i32_subT (by omega) (by omega), e2, b10]
  have c1 : ((2 : Int32) - nI (2 ^ (p - 1)) ≤ f_Size_exponent σ 9) ↔ ¬ expS A < 2 - ((2 ^ (p - 1) : Nat) : Int) := by
    rw [Int32.le_iff_toInt_le, s2, ex]
    omega
  have c2 : (nI (2 ^ (p - 1)) ≤ f_Size_exponent σ 9) ↔ ¬ expS A < ((2 ^ (p - 1) : Nat) : Int) := by
    rw [Int32.le_iff_toInt_le, b10, ex]
    omega
  have d0 := pow_pos2 (d - 1)
  have over : ∀ s : St, frS σ s → ∃ (ρ : St) (K : Int64), frS σ ρ ∧ f_Wr_numberPattern_b222 a v s = (K, f_Ctl_tell ρ (nI (if w / 8 % 2 = 1 then 40 else 8))) ∧ uN K = (if infS (wayOf w) A.1 then allW d p else allW d p - 1) ∧ (if infS (wayOf w) A.1 then allW d p else allW d p - 1) ≤ allW d p ∧ (if w / 8 % 2 = 1 then 40 else 8) < 64 := fun s f => by
    obtain ⟨K, k1, k2⟩ := infs_c (s := s) (a := a) (mi := A.1) (v := v) (by rw [f.1 6 3 (by decide)]; exact hs) hw (by rw [f.2.2 15 a (by decide) (by decide)]; exact ha.1) 0 (by omega)
    rw [hv] at k2
    refine ⟨s, K, f, k1, k2, ?_, ?_⟩
    · split <;> omega
    · split <;> decide
  unfold f_Wr_numberPattern numW
  rw [rounding_eq hs hw, ha.1]
  dsimp only
  simp only [c1, c2]
  by_cases q1 : expS A < 2 - ((2 ^ (p - 1) : Nat) : Int)
  · rw [if_neg (fun h => h q1), if_pos q1]
    obtain ⟨pl, hpl⟩ : ∃ pl : Nat, (3 - ((2 ^ (p - 1) : Nat) : Int) - d) = (gI σ 11 9).toInt + (pl : Int) := ⟨(3 - ((2 ^ (p - 1) : Nat) : Int) - d - (gI σ 11 9).toInt).toNat, by omega⟩
    have ep : (3 - nI (2 ^ (p - 1)) - nI d) - gI σ 11 9 = nI pl := by
      apply Int32.toInt_inj.mp
      have t1 : ((3 : Int32) - nI (2 ^ (p - 1))).toInt = 3 - ((2 ^ (p - 1) : Nat) : Int) := by rw [i32_subT (by omega) (by omega), e3, b10]
      have t2 : ((3 : Int32) - nI (2 ^ (p - 1)) - nI d).toInt = 3 - ((2 ^ (p - 1) : Nat) : Int) - d := by rw [i32_subT (by omega) (by omega), t1, b9]
      rw [i32_subT (by omega) (by omega), t2, nI_toInt (by omega)]
      omega
    obtain ⟨K, k1, k2⟩ := round_L hl z way4 A.1 hpl (by omega) (by omega)
    rw [ep, k1]
    have ub := und_b w (show 2 ≤ d by omega) z q1
    have f1 : frS σ (sZ (sJ σ 12 9 K) 13 9 (lossy (undX d p A))) := frS_rd _ _ _ _
    have g12 : gJ (sZ (sJ σ 12 9 K) 13 9 (lossy (undX d p A))) 12 9 = K := by simp [gJ_sZ, gJ_sJ]
    have g13 : gZ (sZ (sJ σ 12 9 K) 13 9 (lossy (undX d p A))) 13 9 = lossy (undX d p A) := by simp [gZ_sZ]
    have hx : RQ A.2.2 false (unitN A.2.1) (3 - ((2 ^ (p - 1) : Nat) : Int) - d) = undX d p A := rfl
    rw [hx] at k2 ⊢
    generalize sZ (sJ σ 12 9 K) 13 9 (lossy (undX d p A)) = ρ at *
    have h6 : gI ρ 6 3 = nI w := by rw [f1.1 6 3 (by decide)]; exact hs
    have m1 : ∀ v, f_Ctl_masks (f_Ctl_tell ρ v) 16 = decide (w / 16 % 2 = 1) := fun v => masks16 (σ := f_Ctl_tell ρ v) h6 hw
    have g12t : ∀ v u, gJ (f_Ctl_tell (f_Ctl_tell ρ v) u) 12 9 = K := fun v u => g12
    rw [g13, tell_13, g13, masks16 h6 hw, m1, g12t, tell_tell]
    have lt64 : rnd (wayOf w) A.1 (undX d p A) < 2 ^ 64 := by
      have : (2 : Nat) ^ (d - 1) ≤ 2 ^ 63 := Nat.pow_le_pow_right (by decide) (by omega)
      omega
    rw [Nat.mod_eq_of_lt lt64] at k2
    refine ⟨ρ, K, f1, ?_, k2, by omega, ?_⟩
    · congr 2
      by_cases q : w / 16 % 2 = 1 <;> cases lossy (undX d p A) <;> simp [q] <;> rfl
    · dsimp only
      split
      · split <;> decide
      · decide
  · rw [if_pos q1, if_neg q1]
    by_cases q2 : expS A < ((2 ^ (p - 1) : Nat) : Int)
    · rw [if_neg (fun h => h q2)]
      obtain ⟨n1, n2⟩ := norP_le w (show 2 ≤ d by omega) (show 2 ≤ p by omega) z q2
      obtain ⟨r1, r2⟩ := nor_b w (show 2 ≤ d by omega) z
      have hq : expS A + 1 - (d : Int) = (gI σ 11 9).toInt + ((128 - d : Nat) : Int) := by omega
      obtain ⟨K, k1, k2⟩ := round_L hl z way4 A.1 hq (by omega) (by omega)
      rw [b4, k1]
      have f1 : frS σ (sZ (sJ σ 12 9 K) 13 9 (lossy (norX d A))) := frS_rd _ _ _ _
      have g12 : gJ (sZ (sJ σ 12 9 K) 13 9 (lossy (norX d A))) 12 9 = K := by simp [gJ_sZ, gJ_sJ]
      have g13 : gZ (sZ (sJ σ 12 9 K) 13 9 (lossy (norX d A))) 13 9 = lossy (norX d A) := by simp [gZ_sZ]
      have hx : RQ A.2.2 false (unitN A.2.1) (expS A + 1 - d) = norX d A := rfl
      rw [hx] at k2 ⊢
      generalize sZ (sJ σ 12 9 K) 13 9 (lossy (norX d A)) = ρ at *
      have lt64 : rnd (wayOf w) A.1 (norX d A) < 2 ^ 64 := by
        have : (2 : Nat) ^ d ≤ 2 ^ 63 := Nat.pow_le_pow_right (by decide) (by omega)
        omega
      rw [Nat.mod_eq_of_lt lt64] at k2
      obtain ⟨k, hk⟩ : ∃ k : Nat, k = (expS A + ((2 ^ (p - 1) : Nat) : Int) - 2).toNat := ⟨_, rfl⟩
      have ek : f_Size_exponent σ 9 + nI (2 ^ (p - 1)) - 2 = nI k := by
        apply Int32.toInt_inj.mp
        have t1 : (f_Size_exponent σ 9 + nI (2 ^ (p - 1))).toInt = expS A + ((2 ^ (p - 1) : Nat) : Int) := by rw [i32_addT (by omega) (by omega), ex, b10]
        rw [i32_subT (by omega) (by omega), t1, e2, nI_toInt (by omega)]
        omega
      have vP : uN (jlshl (Int32.toInt64 (f_Size_exponent σ 9 + nI (2 ^ (p - 1)) - 2)) (nI d - 1) + gJ ρ 12 9) = norP w d p A := by
        have ed : nI d - 1 = nI (d - 1) := pk_sub (b := 1) (by omega)
        rw [uN_add, uN_jlshl _ (d - 1) ed (by omega), ek, uN_nI (by omega), g12, k2]
        unfold norP at n1 ⊢
        rw [← hk] at n1 n2 ⊢
        generalize k * 2 ^ (d - 1) = X at *
        omega
      generalize jlshl (Int32.toInt64 (f_Size_exponent σ 9 + nI (2 ^ (p - 1)) - 2)) (nI d - 1) + gJ ρ 12 9 = V at *
      have c3 : (v ≤ V) ↔ ¬ norP w d p A < allW d p := by
        rw [l_le (by omega) (by omega), hv, vP]
        omega
      simp only [c3]
      by_cases q3 : norP w d p A < allW d p
      · rw [if_neg (fun h => h q3), if_pos (show (expS A < ((2 ^ (p - 1) : Nat) : Int) ∧ norP w d p A < allW d p) from ⟨q2, q3⟩), g13, (los_n (lossy (norX d A))).1]
        exact ⟨ρ, V, f1, rfl, vP, by omega, (los_n (lossy (norX d A))).2⟩
      · rw [if_pos q3, if_neg (fun (h : (expS A < ((2 ^ (p - 1) : Nat) : Int) ∧ norP w d p A < allW d p)) => q3 h.2)]
        exact over ρ f1
    · rw [if_pos q2, if_neg (fun (h : (expS A < ((2 ^ (p - 1) : Nat) : Int) ∧ norP w d p A < allW d p)) => q2 h.1)]
      exact over σ (frS_refl _)
