/-! the class's sizes -/
def szs (σ : St) (o : Nat) (h l : Int64) (u : Int32) : St := sI (sJ (sJ σ 8 o h) 9 o l) 11 o u
theorem szs_8 (σ : St) (o : Nat) (h l : Int64) (u : Int32) : gJ (szs σ o h l u) 8 o = h := by simp [szs, gJ_sI, gJ_sJ]
theorem szs_9 (σ : St) (o : Nat) (h l : Int64) (u : Int32) : gJ (szs σ o h l u) 9 o = l := by simp [szs, gJ_sI, gJ_sJ]
theorem szs_11 (σ : St) (o : Nat) (h l : Int64) (u : Int32) : gI (szs σ o h l u) 11 o = u := by simp [szs, gI_sI]
theorem szs_szs (σ : St) (o : Nat) (h l h1 l1 : Int64) (u u1 : Int32) : szs (szs σ o h l u) o h1 l1 u1 = szs σ o h1 l1 u1 := by
  apply St_ext <;> intro k x <;> simp only [szs, gI_sI, gI_sJ, gJ_sI, gJ_sJ, gZ_sI, gZ_sJ] <;> grind
theorem szs_id (σ : St) (o : Nat) : szs σ o (gJ σ 8 o) (gJ σ 9 o) (gI σ 11 o) = σ := by
  apply St_ext <;> intro k x <;> simp only [szs, gI_sI, gI_sJ, gJ_sI, gJ_sJ, gZ_sI, gZ_sJ] <;> grind
theorem jshr1N (p : Nat) (h : p < 2 ^ 31) : jshr (nI p) 1 = nI (p / 2) := by
  unfold jshr
  rw [pk_shrN h _ 1 (by decide)]
theorem c64N {p : Nat} (h : p ≤ 64) : (64 : Int32) - nI p = nI (64 - p) := pk_sub (a := 64) h
theorem i32_subT {x y : Int32} (h1 : -2147483648 ≤ x.toInt - y.toInt) (h2 : x.toInt - y.toInt < 2147483648) : (x - y).toInt = x.toInt - y.toInt := by
  rw [Int32.toInt_sub, Int.bmod_eq_of_le (by omega) (by omega)]
theorem i32_addT {x y : Int32} (h1 : -2147483648 ≤ x.toInt + y.toInt) (h2 : x.toInt + y.toInt < 2147483648) : (x + y).toInt = x.toInt + y.toInt := by
  rw [Int32.toInt_add, Int.bmod_eq_of_le (by omega) (by omega)]
/-- 128 bits, some places higher -/
theorem shl128 {h l p : Nat} (hp : p ≤ 64) : (h * 2 ^ p + l / 2 ^ (64 - p)) * 2 ^ 64 + l % 2 ^ (64 - p) * 2 ^ p = (h * 2 ^ 64 + l) * 2 ^ p := by
  have e : (2 : Nat) ^ 64 = 2 ^ p * 2 ^ (64 - p) := by rw [← Nat.pow_add]; congr 1; omega
  have d := Nat.div_add_mod l (2 ^ (64 - p))
  rw [e]
  generalize 2 ^ p = A at *
  generalize 2 ^ (64 - p) = B at *
  generalize l / B = q at *
  generalize l % B = r at *
  subst d
  grind
theorem norm_step {σ : St} {o : Nat} {h l : Int64} {u : Int32} {p : Nat} (hp : 1 ≤ p) (hp2 : p ≤ 32) (hh : 2 ^ (64 - 2 * p) ≤ uN h) (hu : -1000000 ≤ u.toInt ∧ u.toInt ≤ 1000000) :
    ∃ (h1 l1 : Int64) (u1 : Int32) (j : Nat), b_Size_normalise_53 o (nI p, szs σ o h l u) = (true, (nI (p / 2), szs σ o h1 l1 u1)) ∧ 2 ^ (64 - p) ≤ uN h1 ∧ uN h1 * 2 ^ 64 + uN l1 = (uN h * 2 ^ 64 + uN l) * 2 ^ j ∧ u1.toInt = u.toInt - j ∧ j ≤ p := by
  have e0 : ¬ (nI p ≤ 0) := nI_nle (by omega) (by omega)
  have e1 : (64 : Int32) - nI p = nI (64 - p) := c64N (by omega)
  have e2 := jshr1N p (by omega)
  have e3 : (nI p).toInt = p := nI_toInt (by omega)
  have eu : uN (jlushr h (nI (64 - p))) = uN h / 2 ^ (64 - p) := uN_jlushr h _ rfl (by omega)
  have hl := uN_lt2 l
  have hA : (2 : Nat) ^ 64 = 2 ^ p * 2 ^ (64 - p) := by rw [← Nat.pow_add]; congr 1; omega
  by_cases hc : uN h < 2 ^ (64 - p)
  · have c1 : jlushr h (nI (64 - p)) = 0 := by
      rw [uN_eq0, eu]
      exact Nat.div_eq_of_lt hc
    refine ⟨jlshl h (nI p) ||| jlushr l (nI (64 - p)), jlshl l (nI p), u - nI p, p, ?_, ?_, ?_, ?_, Nat.le_refl _⟩
    · unfold b_Size_normalise_53
      simp only [e0, if_false, szs_8, e1, c1, if_true, e2]
      congr 2
      rw [← szs_szs σ o h l (jlshl h (nI p) ||| jlushr l (nI (64 - p))) (jlshl l (nI p)) u (u - nI p)]
      unfold szs
      simp [gJ_sI, gJ_sJ, gI_sI, gI_sJ]
    · rw [uN_orr, uN_jlshl h p rfl (by omega)]
      have e4 : uN h * 2 ^ p < 18446744073709551616 := by
        show _ < 2 ^ 64
        rw [hA, Nat.mul_comm]
        exact Nat.mul_lt_mul_of_pos_left hc (pow_pos2 p)
      rw [Nat.mod_eq_of_lt e4]
      refine Nat.le_trans ?_ Nat.left_le_or
      have e5 : 2 ^ (64 - p) = 2 ^ (64 - 2 * p) * 2 ^ p := by rw [← Nat.pow_add]; congr 1; omega
      rw [e5]
      exact Nat.mul_le_mul_right _ hh
    · have e4 : uN h * 2 ^ p < 18446744073709551616 := by
        show _ < 2 ^ 64
        rw [hA, Nat.mul_comm]
        exact Nat.mul_lt_mul_of_pos_left hc (pow_pos2 p)
      have e6 : uN l / 2 ^ (64 - p) < 2 ^ p := by
        rw [Nat.div_lt_iff_lt_mul (pow_pos2 _), ← hA]
        exact hl
      rw [uN_orr, uN_jlshl h p rfl (by omega), Nat.mod_eq_of_lt e4, uN_jlushr l (64 - p) rfl (by omega), or_add e6, uN_jlshl l p rfl (by omega)]
      have e7 : uN l * 2 ^ p % 18446744073709551616 = uN l % 2 ^ (64 - p) * 2 ^ p := mod_mul_pow _ p 64 (by omega)
      rw [e7]
      exact shl128 (by omega)
    · rw [i32_subT (by omega) (by omega), e3]
  · have c1 : ¬ jlushr h (nI (64 - p)) = 0 := by
      rw [uN_eq0, eu]
      have : 1 ≤ uN h / 2 ^ (64 - p) := (Nat.le_div_iff_mul_le (pow_pos2 _)).mpr (by omega)
      omega
    refine ⟨h, l, u, 0, ?_, by omega, by simp, by simp, by omega⟩
    unfold b_Size_normalise_53
    simp only [e0, if_false, szs_8, e1, c1, e2]
theorem norm_loop {σ : St} {o : Nat} {h l : Int64} {u : Int32} (hh : 1 ≤ uN h) (hu : -900000 ≤ u.toInt ∧ u.toInt ≤ 900000) :
    ∃ (h1 l1 : Int64) (u1 : Int32) (j : Nat), (lpn (b_Size_normalise_53 o) 33 (32, szs σ o h l u)).2 = szs σ o h1 l1 u1 ∧ 2 ^ 63 ≤ uN h1 ∧ uN h1 * 2 ^ 64 + uN l1 = (uN h * 2 ^ 64 + uN l) * 2 ^ j ∧ u1.toInt = u.toInt - j ∧ j < 64 := by
  refine lpn_P (b := b_Size_normalise_53 o) (fun i t => ∃ (h1 l1 : Int64) (u1 : Int32) (j : Nat), t = (nI (32 / 2 ^ i), szs σ o h1 l1 u1) ∧ 2 ^ (64 - 64 / 2 ^ i) ≤ uN h1 ∧ uN h1 * 2 ^ 64 + uN l1 = (uN h * 2 ^ 64 + uN l) * 2 ^ j ∧ u1.toInt = u.toInt - j ∧ j ≤ 64 - 64 / 2 ^ i) (fun y => ∃ (h1 l1 : Int64) (u1 : Int32) (j : Nat), y.2 = szs σ o h1 l1 u1 ∧ 2 ^ 63 ≤ uN h1 ∧ uN h1 * 2 ^ 64 + uN l1 = (uN h * 2 ^ 64 + uN l) * 2 ^ j ∧ u1.toInt = u.toInt - j ∧ j < 64) 6 ?_ ?_ (by decide) ⟨h, l, u, 0, rfl, hh, by simp, by simp, by decide⟩
  · intro i t hi ⟨h1, l1, u1, j, et, b1, b2, b3, b4⟩
    subst et
    have hi6 : i = 0 ∨ i = 1 ∨ i = 2 ∨ i = 3 ∨ i = 4 ∨ i = 5 := by omega
    have k1 : 1 ≤ 32 / 2 ^ i ∧ 32 / 2 ^ i ≤ 32 ∧ 64 / 2 ^ i = 2 * (32 / 2 ^ i) ∧ 32 / 2 ^ i / 2 = 32 / 2 ^ (i + 1) ∧ 64 / 2 ^ (i + 1) = 32 / 2 ^ i := by
      rcases hi6 with rfl | rfl | rfl | rfl | rfl | rfl <;> decide
    obtain ⟨k2, k3, k4, k5, k6⟩ := k1
    rw [k4] at b1 b4
    obtain ⟨h2, l2, u2, j2, c1, c2, c3, c4, c5⟩ := norm_step (σ := σ) (o := o) (l := l1) (u := u1) k2 k3 b1 (by omega)
    refine ⟨_, c1, h2, l2, u2, j + j2, by rw [k5], by rw [k6]; exact c2, ?_, by omega, by rw [k6]; omega⟩
    rw [c3, b2, Nat.mul_assoc, ← Nat.pow_add]
  · intro t ⟨h1, l1, u1, j, et, b1, b2, b3, b4⟩
    subst et
    refine ⟨(nI (32 / 2 ^ 6), szs σ o h1 l1 u1), ?_, h1, l1, u1, j, rfl, b1, b2, b3, ?_⟩
    · unfold b_Size_normalise_53
      have : nI (32 / 2 ^ 6) ≤ 0 := by decide
      simp only [this, if_true]
    · have : 64 - 64 / 2 ^ 6 = 63 := by decide
      omega
theorem normalise_spec (σ : St) (o : Nat) (hu : -800000 ≤ (gI σ 11 o).toInt ∧ (gI σ 11 o).toInt ≤ 800000) :
    ∃ (h l : Int64) (u : Int32), f_Size_normalise σ o = szs σ o h l u ∧ ((uN (gJ σ 8 o) * 2 ^ 64 + uN (gJ σ 9 o) = 0 ∧ h = 0 ∧ l = 0 ∧ u = -17000) ∨ (2 ^ 63 ≤ uN h ∧ ∃ j : Nat, j < 128 ∧ uN h * 2 ^ 64 + uN l = (uN (gJ σ 8 o) * 2 ^ 64 + uN (gJ σ 9 o)) * 2 ^ j ∧ u.toInt = (gI σ 11 o).toInt - j)) := by
  have e64 : (64 : Int32).toInt = 64 := by decide
  by_cases h8 : gJ σ 8 o = 0
  · have z8 : uN (gJ σ 8 o) = 0 := uN_eq0.mp h8
    by_cases h9 : gJ σ 9 o = 0
    · have z9 : uN (gJ σ 9 o) = 0 := uN_eq0.mp h9
      refine ⟨0, 0, -17000, ?_, Or.inl ⟨by rw [z8, z9], rfl, rfl, rfl⟩⟩
      unfold f_Size_normalise
      have : gJ (sI (sJ (sJ σ 8 o (gJ σ 9 o)) 9 o 0) 11 o (gI (sJ (sJ σ 8 o (gJ σ 9 o)) 9 o 0) 11 o - 64)) 8 o = 0 := by
        simp [gJ_sI, gJ_sJ, h9]
      simp only [h8, if_true, this]
      rw [sI_sI, h9]
      rfl
    · obtain ⟨h1, l1, u1, j, c1, c2, c3, c4, c5⟩ := norm_loop (σ := σ) (o := o) (h := gJ σ 9 o) (l := 0) (u := gI σ 11 o - 64) (by have : uN (gJ σ 9 o) ≠ 0 := fun q => h9 (uN_eq0.mpr q); omega) (by rw [i32_subT (by omega) (by omega)]; omega)
      refine ⟨h1, l1, u1, ?_, Or.inr ⟨c2, j + 64, by omega, ?_, ?_⟩⟩
      · rw [← c1]
        unfold f_Size_normalise
        have q1 : sI (sJ (sJ σ 8 o (gJ σ 9 o)) 9 o 0) 11 o (gI (sJ (sJ σ 8 o (gJ σ 9 o)) 9 o 0) 11 o - 64) = szs σ o (gJ σ 9 o) 0 (gI σ 11 o - 64) := rfl
        simp only [h8, if_true, q1, szs_8, h9, if_false]
      · rw [c3, z8, Nat.pow_add]
        have : uN 0 = 0 := rfl
        rw [this]
        generalize uN (gJ σ 9 o) = X
        generalize 2 ^ j = Y
        grind
      · rw [c4, i32_subT (by omega) (by omega), e64]
        omega
  · obtain ⟨h1, l1, u1, j, c1, c2, c3, c4, c5⟩ := norm_loop (σ := σ) (o := o) (h := gJ σ 8 o) (l := gJ σ 9 o) (u := gI σ 11 o) (by have : uN (gJ σ 8 o) ≠ 0 := fun q => h8 (uN_eq0.mpr q); omega) (by omega)
    refine ⟨h1, l1, u1, ?_, Or.inr ⟨c2, j, by omega, c3, c4⟩⟩
    rw [← c1, szs_id]
    unfold f_Size_normalise
    simp only [h8, if_false]
def szm (σ : St) (o : Nat) (h l : Int64) (m : Bool) (u : Int32) : St := szs (sZ σ 10 o m) o h l u
theorem loadTimes_spec (σ : St) (o : Nat) (w : Int64) (e : Int32) (he : -100000 ≤ e.toInt ∧ e.toInt ≤ 100000) :
    ∃ (h : Int64) (u : Int32), f_Size_loadTimes σ o w e = szm σ o h 0 false u ∧ ((w = 0 ∧ h = 0 ∧ u = -17000) ∨ (2 ^ 63 ≤ uN h ∧ ∃ j : Nat, j < 64 ∧ uN h = uN w * 2 ^ j ∧ u.toInt = e.toInt - 64 - j)) := by
  have e64 : (64 : Int32).toInt = 64 := by decide
  have e0 : uN 0 = 0 := rfl
  have eu : (e - 64).toInt = e.toInt - 64 := by rw [i32_subT (by omega) (by omega), e64]
  have q1 : f_Size_loadTimes σ o w e = f_Size_normalise (szm σ o w 0 false (e - 64)) o := by
    unfold f_Size_loadTimes
    rfl
  have g8 : gJ (szm σ o w 0 false (e - 64)) 8 o = w := szs_8 _ _ _ _ _
  have g9 : gJ (szm σ o w 0 false (e - 64)) 9 o = 0 := szs_9 _ _ _ _ _
  have g11 : gI (szm σ o w 0 false (e - 64)) 11 o = e - 64 := szs_11 _ _ _ _ _
  obtain ⟨h, l, u, c1, c2⟩ := normalise_spec (szm σ o w 0 false (e - 64)) o (by rw [g11, eu]; omega)
  rw [g8, g9, g11, eu, e0] at c2
  have q2 : f_Size_loadTimes σ o w e = szm σ o h l false u := by
    rw [q1, c1]
    exact szs_szs _ _ _ _ _ _ _ _
  rcases c2 with ⟨d1, rfl, rfl, rfl⟩ | ⟨d1, j, d2, d3, d4⟩
  · exact ⟨0, -17000, q2, Or.inl ⟨uN_eq0.mpr (by omega), rfl, rfl⟩⟩
  · have hl := uN_lt l
    have hh := uN_lt h
    have hw := uN_lt w
    have d3' : uN h * 18446744073709551616 + uN l = uN w * 2 ^ j * 18446744073709551616 := by
      have : (uN w * 2 ^ 64 + 0) * 2 ^ j = uN w * 2 ^ j * 18446744073709551616 := by grind
      rw [← this]
      exact d3
    have d5 : uN l = 0 ∧ uN h = uN w * 2 ^ j := by
      generalize uN w * 2 ^ j = X at d3'
      omega
    have d6 : l = 0 := uN_eq0.mpr d5.1
    subst d6
    refine ⟨h, u, q2, Or.inr ⟨d1, j, ?_, d5.2, d4⟩⟩
    refine Classical.byContradiction (fun hj => ?_)
    have : 2 ^ 64 ≤ 2 ^ j := Nat.pow_le_pow_right (by decide) (by omega)
    have h1 : uN w ≠ 0 := fun q => by
      rw [q] at d5
      omega
    have : 1 * 2 ^ j ≤ uN w * 2 ^ j := Nat.mul_le_mul_right _ (by omega)
    omega
