/-! sums, differences, products of sizes -/
theorem tiB (c : Bool) : uN (Int32.toInt64 (bI c)) = c.toNat := by cases c <;> rfl
theorem add128 {xh xl yh yl : Int64} (h : uN xh * 2 ^ 64 + uN xl + (uN yh * 2 ^ 64 + uN yl) < 2 ^ 128) :
    uN (xh + (yh + Int32.toInt64 (bI (f_Size_isBelow (xl + yl) yl)))) * 2 ^ 64 + uN (xl + yl) = uN xh * 2 ^ 64 + uN xl + (uN yh * 2 ^ 64 + uN yl) := by
  have a1 := uN_lt xh
  have a2 := uN_lt xl
  have a3 := uN_lt yh
  have a4 := uN_lt yl
  rw [isBelow_eq, uN_add xh, uN_add yh, tiB, uN_add xl yl]
  by_cases hc : (uN xl + uN yl) % 18446744073709551616 < uN yl
  · simp only [hc, decide_true, Bool.toNat_true]
    omega
  · simp only [hc, decide_false, Bool.toNat_false]
    omega
theorem sub128 {xh xl yh yl : Int64} (h : uN yh * 2 ^ 64 + uN yl ≤ uN xh * 2 ^ 64 + uN xl) :
    uN (xh - (yh + (if f_Size_isBelow xl yl = true then 1 else 0))) * 2 ^ 64 + uN (xl - yl) + (uN yh * 2 ^ 64 + uN yl) = uN xh * 2 ^ 64 + uN xl := by
  have a1 := uN_lt xh
  have a2 := uN_lt xl
  have a3 := uN_lt yh
  have a4 := uN_lt yl
  have e1 : uN 1 = 1 := rfl
  have e0 : uN 0 = 0 := rfl
  rw [isBelow_eq, uN_sub xh, uN_add yh, uN_sub xl yl]
  by_cases hc : uN xl < uN yl
  · simp only [hc, decide_true, if_true, e1]
    omega
  · simp only [hc, decide_false, Bool.false_eq_true, if_false, e0]
    omega
theorem dec128 {xh xl : Int64} (h : 1 ≤ uN xh * 2 ^ 64 + uN xl) : uN (xh - (if xl = 0 then 1 else 0)) * 2 ^ 64 + uN (xl - 1) + 1 = uN xh * 2 ^ 64 + uN xl := by
  have a1 := uN_lt xh
  have a2 := uN_lt xl
  have e1 : uN 1 = 1 := rfl
  have e0 : uN 0 = 0 := rfl
  rw [uN_sub xh, uN_sub xl]
  by_cases hc : xl = 0
  · have : uN xl = 0 := uN_eq0.mp hc
    rw [if_pos hc, e1]
    omega
  · have : uN xl ≠ 0 := fun q => hc (uN_eq0.mpr q)
    rw [if_neg hc, e1, e0]
    omega
theorem normalise_szm (σ : St) (o : Nat) (h l : Int64) (m : Bool) (u : Int32) (hu : -800000 ≤ u.toInt ∧ u.toInt ≤ 800000) :
    ∃ (h1 l1 : Int64) (u1 : Int32), f_Size_normalise (szm σ o h l m u) o = szm σ o h1 l1 m u1 ∧ ((uN h * 2 ^ 64 + uN l = 0 ∧ h1 = 0 ∧ l1 = 0) ∨ (2 ^ 63 ≤ uN h1 ∧ ∃ j : Nat, j < 128 ∧ uN h1 * 2 ^ 64 + uN l1 = (uN h * 2 ^ 64 + uN l) * 2 ^ j ∧ u1.toInt = u.toInt - j)) := by
  obtain ⟨h1, l1, u1, c1, c2⟩ := normalise_spec (szm σ o h l m u) o (by rw [szm_11]; exact hu)
  rw [szm_8, szm_9, szm_11] at c2
  refine ⟨h1, l1, u1, ?_, ?_⟩
  · rw [c1]
    unfold szm
    exact szs_szs _ _ _ _ _ _ _ _
  · rcases c2 with ⟨d1, d2, d3, d4⟩ | d
    · exact Or.inl ⟨d1, d2, d3⟩
    · exact Or.inr d
/-- both shifted to stand one place above the greater one's unit -/
theorem two_shift (σ : St) (o a1 : Nat) (hne : o ≠ a1) (lx : gJ σ 9 o = 0) (mx : gZ σ 10 o = false) (ly : gJ σ 9 a1 = 0) (my : gZ σ 10 a1 = false) (hu : -100000 ≤ (gI σ 11 o).toInt ∧ (gI σ 11 o).toInt ≤ 100000) (d : Nat) (hd : (gI σ 11 o).toInt = (gI σ 11 a1).toInt + d) (hd2 : d < 200000) :
    ∃ xh xl yh yl : Int64, f_Size_shiftRight (f_Size_shiftRight σ o 1) a1 (gI (f_Size_shiftRight σ o 1) 11 o - gI (f_Size_shiftRight σ o 1) 11 a1) = szm (szm σ a1 yh yl (decide (uN (gJ σ 8 a1) * 2 ^ 64 % 2 ^ (d + 1) ≠ 0)) (gI σ 11 a1 + nI (d + 1))) o xh xl false (gI σ 11 o + 1) ∧
      uN xh * 2 ^ 64 + uN xl = uN (gJ σ 8 o) * 2 ^ 63 ∧ uN yh * 2 ^ 64 + uN yl = uN (gJ σ 8 a1) * 2 ^ 64 / 2 ^ (d + 1) := by
  have u0 : uN 0 = 0 := rfl
  obtain ⟨xh, xl, c1, c2⟩ := shiftRight_spec σ o 1 (by decide)
  rw [lx, mx, u0] at c1
  rw [lx, u0] at c2
  have q1 : (false || decide ((uN (gJ σ 8 o) * 2 ^ 64 + 0) % 2 ^ 1 ≠ 0)) = false := by
    have : (uN (gJ σ 8 o) * 2 ^ 64 + 0) % 2 ^ 1 = 0 := by omega
    rw [decide_eq_false (fun h => h this)]
    rfl
  rw [q1] at c1
  have n1 : nI 1 = (1 : Int32) := rfl
  rw [n1] at c1
  rw [c1]
  have hn2 : ¬ a1 = o := fun q => hne q.symm
  have g1 : gI (szm σ o xh xl false (gI σ 11 o + 1)) 11 o = gI σ 11 o + 1 := szm_11 _ _ _ _ _ _
  have g2 : gI (szm σ o xh xl false (gI σ 11 o + 1)) 11 a1 = gI σ 11 a1 := by
    rw [szm_I, if_pos rfl, if_neg (fun q => hne q.symm)]
  have g3 : gJ (szm σ o xh xl false (gI σ 11 o + 1)) 8 a1 = gJ σ 8 a1 := by
    rw [szm_J]
    simp [hn2]
  have g4 : gJ (szm σ o xh xl false (gI σ 11 o + 1)) 9 a1 = 0 := by
    rw [szm_J]
    simp [hn2, ly]
  have g5 : gZ (szm σ o xh xl false (gI σ 11 o + 1)) 10 a1 = false := by
    rw [szm_Z]
    simp [hn2, my]
  have e1 : (1 : Int32).toInt = 1 := by decide
  have q2 : gI σ 11 o + 1 - gI σ 11 a1 = nI (d + 1) := by
    apply Int32.toInt_inj.mp
    have q3 : (gI σ 11 o + 1).toInt = (gI σ 11 o).toInt + 1 := by rw [i32_addT (by omega) (by omega), e1]
    have q4 : (nI (d + 1)).toInt = ((d + 1 : Nat) : Int) := nI_toInt (by omega)
    rw [i32_subT (by omega) (by omega), q3, q4]
    omega
  generalize hD : decide (uN (gJ σ 8 a1) * 2 ^ 64 % 2 ^ (d + 1) ≠ 0) = D
  obtain ⟨yh, yl, c3, c4⟩ := shiftRight_specN (szm σ o xh xl false (gI σ 11 o + 1)) a1 (d + 1) (by omega) (uN (gJ σ 8 a1) * 2 ^ 64) (by rw [g3, g4, u0]; exact Nat.add_zero _) D (by rw [g5, hD]; exact Bool.false_or _) (gI σ 11 a1 + nI (d + 1)) (by rw [g2])
  refine ⟨xh, xl, yh, yl, ?_, by rw [c2]; omega, c4⟩
  rw [g1, g2, q2, c3]
  exact szm_comm _ _ _ hne _ _ _ _ _ _ _ _
theorem add_spec (σ : St) (o a1 : Nat) (hne : o ≠ a1) (lx : gJ σ 9 o = 0) (mx : gZ σ 10 o = false) (ly : gJ σ 9 a1 = 0) (my : gZ σ 10 a1 = false) (hu : -100000 ≤ (gI σ 11 o).toInt ∧ (gI σ 11 o).toInt ≤ 100000) (d : Nat) (hd : (gI σ 11 o).toInt = (gI σ 11 a1).toInt + d) (hd2 : d < 200000) (M : Bool) (hM : M = decide (uN (gJ σ 8 a1) * 2 ^ 64 % 2 ^ (d + 1) ≠ 0)) (S : Nat) (hS : S = uN (gJ σ 8 o) * 2 ^ 63 + uN (gJ σ 8 a1) * 2 ^ 64 / 2 ^ (d + 1)) :
    ∃ (y1 y2 : Int64) (y4 : Int32) (h l : Int64) (u : Int32), f_Size_add σ o a1 = szm (szm σ a1 y1 y2 M y4) o h l M u ∧ ((S = 0 ∧ h = 0 ∧ l = 0) ∨ (2 ^ 63 ≤ uN h ∧ ∃ j : Nat, j < 128 ∧ uN h * 2 ^ 64 + uN l = S * 2 ^ j ∧ u.toInt = (gI σ 11 o).toInt + 1 - j)) := by
  obtain ⟨xh, xl, yh, yl, c1, c2, c3⟩ := two_shift σ o a1 hne lx mx ly my hu d hd hd2
  rw [← hM] at c1
  have b1 := uN_lt2 (gJ σ 8 o)
  have b2 := uN_lt2 (gJ σ 8 a1)
  have b3 : uN (gJ σ 8 a1) * 2 ^ 64 / 2 ^ (d + 1) < 2 ^ 127 := by
    rw [Nat.div_lt_iff_lt_mul (pow_pos2 _)]
    have : 2 ^ 127 * 2 ^ 1 ≤ 2 ^ 127 * 2 ^ (d + 1) := Nat.mul_le_mul_left _ (Nat.pow_le_pow_right (by decide) (by omega))
    have e : (2 : Nat) ^ 127 * 2 ^ 1 = 2 ^ 64 * 2 ^ 64 := by decide
    rw [e] at this
    exact Nat.lt_of_lt_of_le (Nat.mul_lt_mul_of_pos_right b2 (by decide)) this
  have b4 := add128 (xh := xh) (xl := xl) (yh := yh) (yl := yl) (by rw [c2, c3]; omega)
  have e1 : (1 : Int32).toInt = 1 := by decide
  have q3 : (gI σ 11 o + 1).toInt = (gI σ 11 o).toInt + 1 := by rw [i32_addT (by omega) (by omega), e1]
  obtain ⟨h1, l1, u1, d1, d2⟩ := normalise_szm (szm σ a1 yh yl M (gI σ 11 a1 + nI (d + 1))) o (xh + (yh + Int32.toInt64 (bI (f_Size_isBelow (xl + yl) yl)))) (xl + yl) M (gI σ 11 o + 1) (by omega)
  rw [b4, c2, c3, ← hS, q3] at d2
  refine ⟨yh, yl, gI σ 11 a1 + nI (d + 1), h1, l1, u1, ?_, d2⟩
  rw [← d1]
  unfold f_Size_add
  simp only [c1]
  congr 1
  have hn2 : ¬ a1 = o := fun q => hne q.symm
  have tt : ∀ b : Bool, (if b = true then true else false) = b := fun b => by cases b <;> rfl
  have p1 : gJ (szm (szm σ a1 yh yl M (gI σ 11 a1 + nI (d + 1))) o xh xl false (gI σ 11 o + 1)) 9 o = xl := szm_9 _ _ _ _ _ _
  have p2 : gJ (szm (szm σ a1 yh yl M (gI σ 11 a1 + nI (d + 1))) o xh xl false (gI σ 11 o + 1)) 9 a1 = yl := by
    rw [szm_J]
    simp [hn2, szm_9]
  have p3 : gJ (szm (szm σ a1 yh yl M (gI σ 11 a1 + nI (d + 1))) o xh xl false (gI σ 11 o + 1)) 8 o = xh := szm_8 _ _ _ _ _ _
  have p4 : gJ (szm (szm σ a1 yh yl M (gI σ 11 a1 + nI (d + 1))) o xh xl false (gI σ 11 o + 1)) 8 a1 = yh := by
    rw [szm_J]
    simp [hn2, szm_8]
  have p5 : gZ (szm (szm σ a1 yh yl M (gI σ 11 a1 + nI (d + 1))) o xh xl false (gI σ 11 o + 1)) 10 a1 = M := by
    rw [szm_Z]
    simp [hn2, szm_10]
  generalize hB : szm σ a1 yh yl M (gI σ 11 a1 + nI (d + 1)) = B at *
  simp only [gJ_sJ, gJ_sZ, gZ_sJ, p1, p2, p3, p4, p5, hn2, tt, if_true, if_false]
  simp only [show ¬ ((8 : Nat) = 9) by decide, show ¬ ((9 : Nat) = 8) by decide, if_false, p3, p4]
  apply St_ext <;> intro k x <;> simp only [szm_I, szm_J, szm_Z, gI_sI, gI_sJ, gI_sZ, gJ_sI, gJ_sJ, gJ_sZ, gZ_sI, gZ_sJ, gZ_sZ] <;> grind
theorem subtract_spec (σ : St) (o a1 : Nat) (hne : o ≠ a1) (lx : gJ σ 9 o = 0) (mx : gZ σ 10 o = false) (ly : gJ σ 9 a1 = 0) (my : gZ σ 10 a1 = false) (hu : -100000 ≤ (gI σ 11 o).toInt ∧ (gI σ 11 o).toInt ≤ 100000) (d : Nat) (hd : (gI σ 11 o).toInt = (gI σ 11 a1).toInt + d) (hd2 : d < 200000) (M : Bool) (hM : M = decide (uN (gJ σ 8 a1) * 2 ^ 64 % 2 ^ (d + 1) ≠ 0)) (S : Nat) (hS : S + M.toNat + uN (gJ σ 8 a1) * 2 ^ 64 / 2 ^ (d + 1) = uN (gJ σ 8 o) * 2 ^ 63) :
    ∃ (y1 y2 : Int64) (y4 : Int32) (h l : Int64) (u : Int32), f_Size_subtract σ o a1 = szm (szm σ a1 y1 y2 M y4) o h l M u ∧ ((S = 0 ∧ h = 0 ∧ l = 0) ∨ (2 ^ 63 ≤ uN h ∧ ∃ j : Nat, j < 128 ∧ uN h * 2 ^ 64 + uN l = S * 2 ^ j ∧ u.toInt = (gI σ 11 o).toInt + 1 - j)) := by
  obtain ⟨xh, xl, yh, yl, c1, c2, c3⟩ := two_shift σ o a1 hne lx mx ly my hu d hd hd2
  rw [← hM] at c1
  generalize uN (gJ σ 8 a1) * 2 ^ 64 / 2 ^ (d + 1) = Y at c3 hS
  have b4 := sub128 (xh := xh) (xl := xl) (yh := yh) (yl := yl) (by rw [c2, c3]; omega)
  have e1 : (1 : Int32).toInt = 1 := by decide
  have q3 : (gI σ 11 o + 1).toInt = (gI σ 11 o).toInt + 1 := by rw [i32_addT (by omega) (by omega), e1]
  have hn2 : ¬ a1 = o := fun q => hne q.symm
  have p1 : gJ (szm (szm σ a1 yh yl M (gI σ 11 a1 + nI (d + 1))) o xh xl false (gI σ 11 o + 1)) 9 o = xl := szm_9 _ _ _ _ _ _
  have p2 : gJ (szm (szm σ a1 yh yl M (gI σ 11 a1 + nI (d + 1))) o xh xl false (gI σ 11 o + 1)) 9 a1 = yl := by
    rw [szm_J]
    simp [hn2, szm_9]
  have p3 : gJ (szm (szm σ a1 yh yl M (gI σ 11 a1 + nI (d + 1))) o xh xl false (gI σ 11 o + 1)) 8 o = xh := szm_8 _ _ _ _ _ _
  have p4 : gJ (szm (szm σ a1 yh yl M (gI σ 11 a1 + nI (d + 1))) o xh xl false (gI σ 11 o + 1)) 8 a1 = yh := by
    rw [szm_J]
    simp [hn2, szm_8]
  have p5 : gZ (szm (szm σ a1 yh yl M (gI σ 11 a1 + nI (d + 1))) o xh xl false (gI σ 11 o + 1)) 10 a1 = M := by
    rw [szm_Z]
    simp [hn2, szm_10]
  rw [c2, c3] at b4
  have hS2 : ∀ r : Nat, r + Y = uN (gJ σ 8 o) * 2 ^ 63 → r = S + M.toNat := fun r h => by
    clear hM c1 hu hd
    omega
  generalize hA : xh - (yh + (if f_Size_isBelow xl yl = true then 1 else 0)) = A at *
  generalize hB : xl - yl = B at *
  generalize hG : szm σ a1 yh yl M (gI σ 11 a1 + nI (d + 1)) = G at *
  cases M with
  | false =>
    obtain ⟨h1, l1, u1, d1, d2⟩ := normalise_szm G o A B false (gI σ 11 o + 1) (by omega)
    have e2 : uN A * 2 ^ 64 + uN B = S := by
      have := hS2 _ b4
      rw [this]
      rfl
    rw [e2, q3] at d2
    refine ⟨yh, yl, gI σ 11 a1 + nI (d + 1), h1, l1, u1, ?_, d2⟩
    rw [hG, ← d1]
    unfold f_Size_subtract
    simp only [c1]
    simp only [gJ_sJ, gJ_sZ, gZ_sJ, gZ_sZ, p1, p2, p3, p4, p5, hn2, if_true, if_false, Bool.false_eq_true]
    simp only [show ¬ ((8 : Nat) = 9) by decide, show ¬ ((9 : Nat) = 8) by decide, if_false, p3, p4, hA, hB]
    congr 1
    apply St_ext <;> intro k x <;> simp only [szm_I, szm_J, szm_Z, gI_sI, gI_sJ, gI_sZ, gJ_sI, gJ_sJ, gJ_sZ, gZ_sI, gZ_sJ, gZ_sZ] <;> grind
  | true =>
    have e4 : uN A * 2 ^ 64 + uN B = S + 1 := hS2 _ b4
    have e3 : 1 ≤ uN A * 2 ^ 64 + uN B := by
      rw [e4]
      exact Nat.le_add_left 1 S
    have b5 := dec128 e3
    obtain ⟨h1, l1, u1, d1, d2⟩ := normalise_szm G o (A - (if B = 0 then 1 else 0)) (B - 1) true (gI σ 11 o + 1) (by omega)
    have e2 : uN (A - (if B = 0 then 1 else 0)) * 2 ^ 64 + uN (B - 1) = S := by
      rw [e4] at b5
      exact Nat.succ.inj b5
    rw [e2, q3] at d2
    refine ⟨yh, yl, gI σ 11 a1 + nI (d + 1), h1, l1, u1, ?_, d2⟩
    rw [hG, ← d1]
    unfold f_Size_subtract
    simp only [c1]
    simp only [gJ_sJ, gJ_sZ, gZ_sJ, gZ_sZ, p1, p2, p3, p4, p5, hn2, if_true, if_false]
    simp only [show ¬ ((8 : Nat) = 9) by decide, show ¬ ((9 : Nat) = 8) by decide, if_false, p3, p4, hA, hB]
    congr 1
    apply St_ext <;> intro k x <;> simp only [szm_I, szm_J, szm_Z, gI_sI, gI_sJ, gI_sZ, gJ_sI, gJ_sJ, gJ_sZ, gZ_sI, gZ_sJ, gZ_sZ] <;> grind
