/-! products, quotients, roots of sizes -/
theorem mul64 {x y : Int64} {a b c d v5 v6 v7 hi lo : Int64} (ha : a = jlushr x 32) (hb : b = x &&& 4294967295) (hc : c = jlushr y 32) (hd : d = y &&& 4294967295) (h5 : v5 = b * d) (h6 : v6 = a * d + jlushr v5 32) (h7 : v7 = b * c + (v6 &&& 4294967295)) (hhi : hi = a * c + jlushr v6 32 + jlushr v7 32) (hlo : lo = jlshl v7 32 ||| (v5 &&& 4294967295)) :
    uN hi * 2 ^ 64 + uN lo = uN x * uN y := by
  have bx := uN_lt x
  have bb := uN_lt y
  have s32 : ∀ z : Int64, uN (jlushr z 32) = uN z / 4294967296 := fun z => uN_jlushr z 32 rfl (by decide)
  have ea : uN a = uN x / 4294967296 := by rw [ha, s32]
  have eb : uN b = uN x % 4294967296 := by rw [hb, uN_lo]
  have ec : uN c = uN y / 4294967296 := by rw [hc, s32]
  have ed : uN d = uN y % 4294967296 := by rw [hd, uN_lo]
  have m32 : ∀ p q : Nat, p < 4294967296 → q < 4294967296 → p * q ≤ 4294967295 * 4294967295 := fun p q h1 h2 => Nat.mul_le_mul (by omega) (by omega)
  have k1 := m32 (uN b) (uN d) (by omega) (by omega)
  have k2 := m32 (uN a) (uN d) (by omega) (by omega)
  have k3 := m32 (uN b) (uN c) (by omega) (by omega)
  have k4 := m32 (uN a) (uN c) (by omega) (by omega)
  have e5 : uN v5 = uN b * uN d := by rw [h5, uN_mul]; exact Nat.mod_eq_of_lt (by omega)
  have e6 : uN v6 = uN a * uN d + uN b * uN d / 4294967296 := by rw [h6, uN_add, uN_mul, s32, e5]; omega
  have e7 : uN v7 = uN b * uN c + uN v6 % 4294967296 := by rw [h7, uN_add, uN_mul, uN_lo]; omega
  have prod : uN x * uN y = uN a * uN c * 18446744073709551616 + (uN a * uN d + uN b * uN c) * 4294967296 + uN b * uN d := by
    have x1 : uN x = uN a * 4294967296 + uN b := by omega
    have y1 : uN y = uN c * 4294967296 + uN d := by omega
    rw [x1, y1]
    generalize uN a = A
    generalize uN b = B
    generalize uN c = C
    generalize uN d = D
    grind
  have el : uN lo = uN v7 % 4294967296 * 4294967296 + uN b * uN d % 4294967296 := by
    rw [hlo, uN_orr, uN_lo, e5, uN_jlshl v7 (y := 32) 32 rfl (by decide)]
    have q1 : uN v7 * 2 ^ 32 % 18446744073709551616 = uN v7 % 4294967296 * 2 ^ 32 := by omega
    rw [q1, or_add (Nat.mod_lt _ (by decide))]
  have eh : uN hi = uN a * uN c + uN v6 / 4294967296 + uN v7 / 4294967296 := by
    rw [hhi, uN_add, uN_add, uN_mul, s32, s32]
    omega
  rw [prod, eh, el]
  generalize uN a * uN c = P at *
  generalize uN a * uN d = Q at *
  generalize uN b * uN c = R at *
  generalize uN b * uN d = T at *
  omega
theorem multiply_spec (σ : St) (o a1 : Nat) (hu : -100000 ≤ (gI σ 11 o).toInt ∧ (gI σ 11 o).toInt ≤ 100000) (hv : -100000 ≤ (gI σ 11 a1).toInt ∧ (gI σ 11 a1).toInt ≤ 100000) :
    ∃ (h l : Int64) (u : Int32), f_Size_multiply σ o a1 = szm σ o h l (gZ σ 10 o) u ∧ ((uN (gJ σ 8 o) * uN (gJ σ 8 a1) = 0 ∧ h = 0 ∧ l = 0) ∨ (2 ^ 63 ≤ uN h ∧ ∃ j : Nat, j < 128 ∧ uN h * 2 ^ 64 + uN l = uN (gJ σ 8 o) * uN (gJ σ 8 a1) * 2 ^ j ∧ u.toInt = (gI σ 11 o).toInt + (gI σ 11 a1).toInt + 128 - j)) := by
  generalize hhi : (((jlushr (gJ σ 8 o) 32) * (jlushr (gJ σ 8 a1) 32)) + (jlushr (((jlushr (gJ σ 8 o) 32) * ((gJ σ 8 a1) &&& 4294967295)) + (jlushr (((gJ σ 8 o) &&& 4294967295) * ((gJ σ 8 a1) &&& 4294967295)) 32)) 32)) + (jlushr ((((gJ σ 8 o) &&& 4294967295) * (jlushr (gJ σ 8 a1) 32)) + ((((jlushr (gJ σ 8 o) 32) * ((gJ σ 8 a1) &&& 4294967295)) + (jlushr (((gJ σ 8 o) &&& 4294967295) * ((gJ σ 8 a1) &&& 4294967295)) 32)) &&& 4294967295)) 32) = hi
  generalize hlo : (jlshl ((((gJ σ 8 o) &&& 4294967295) * (jlushr (gJ σ 8 a1) 32)) + ((((jlushr (gJ σ 8 o) 32) * ((gJ σ 8 a1) &&& 4294967295)) + (jlushr (((gJ σ 8 o) &&& 4294967295) * ((gJ σ 8 a1) &&& 4294967295)) 32)) &&& 4294967295)) 32) ||| ((((gJ σ 8 o) &&& 4294967295) * ((gJ σ 8 a1) &&& 4294967295)) &&& 4294967295) = lo
  have hm := mul64 (x := gJ σ 8 o) (y := gJ σ 8 a1) rfl rfl rfl rfl rfl rfl rfl hhi.symm hlo.symm
  have e128 : (128 : Int32).toInt = 128 := by decide
  have q1 : (gI σ 11 a1 + 128).toInt = (gI σ 11 a1).toInt + 128 := by rw [i32_addT (by omega) (by omega), e128]
  have q2 : (gI σ 11 o + (gI σ 11 a1 + 128)).toInt = (gI σ 11 o).toInt + ((gI σ 11 a1).toInt + 128) := by rw [i32_addT (by omega) (by omega), q1]
  obtain ⟨h1, l1, u1, d1, d2⟩ := normalise_szm σ o hi lo (gZ σ 10 o) (gI σ 11 o + (gI σ 11 a1 + 128)) (by omega)
  rw [hm, q2] at d2
  refine ⟨h1, l1, u1, ?_, ?_⟩
  · rw [← d1]
    unfold f_Size_multiply
    simp only [hhi, hlo]
    congr 1
    apply St_ext <;> intro k x <;> simp only [szm_I, szm_J, szm_Z, gI_sI, gI_sJ, gI_sZ, gJ_sI, gJ_sJ, gJ_sZ, gZ_sI, gZ_sJ, gZ_sZ] <;> grind
  · rcases d2 with d | ⟨d, j, d3, d4, d5⟩
    · exact Or.inl d
    · exact Or.inr ⟨d, j, d3, d4, by omega⟩
/-! long division -/
def lds (σ : St) (o : Nat) (r h l : Int64) : St := sJ (sJ (sJ σ 14 o r) 8 o h) 9 o l
theorem lds_14 (σ : St) (o : Nat) (r h l : Int64) : gJ (lds σ o r h l) 14 o = r := by simp [lds, gJ_sJ]
theorem lds_8 (σ : St) (o : Nat) (r h l : Int64) : gJ (lds σ o r h l) 8 o = h := by simp [lds, gJ_sJ]
theorem lds_9 (σ : St) (o : Nat) (r h l : Int64) : gJ (lds σ o r h l) 9 o = l := by simp [lds, gJ_sJ]
theorem lds_lds (σ : St) (o : Nat) (r h l r1 h1 l1 : Int64) : lds (lds σ o r h l) o r1 h1 l1 = lds σ o r1 h1 l1 := by
  apply St_ext <;> intro k x <;> simp only [lds, gI_sJ, gJ_sJ, gZ_sJ] <;> grind
theorem lds_149 (σ : St) (o : Nat) (r h l r1 l1 : Int64) : sJ (sJ (lds σ o r h l) 14 o r1) 9 o l1 = lds σ o r1 h l1 := by
  apply St_ext <;> intro k x <;> simp only [lds, gI_sJ, gJ_sJ, gZ_sJ] <;> grind
theorem dbl1 (x : Int64) : uN (jlshl x 1) = 2 * uN x % 18446744073709551616 := by
  rw [uN_jlshl x (y := 1) 1 rfl (by decide), Nat.mul_comm]
/-- twice (h, l), and a bit -/
theorem dbl128 {h l : Int64} (hh : uN h < 9223372036854775808) : uN (jlshl h 1 ||| jlushr l 63) * 2 ^ 64 + uN (jlshl l 1) = 2 * (uN h * 2 ^ 64 + uN l) ∧ uN (jlshl l 1 ||| 1) = uN (jlshl l 1) + 1 := by
  have bl := uN_lt l
  have e63 : uN (jlushr l 63) = uN l / 9223372036854775808 := uN_jlushr l (y := 63) 63 rfl (by decide)
  have e1 : uN 1 = 1 := rfl
  constructor
  · rw [uN_orr, dbl1, dbl1, e63]
    have q : 2 * uN h % 18446744073709551616 = uN h * 2 ^ 1 := by omega
    rw [q, or_add (by omega)]
    omega
  · rw [uN_orr, dbl1, e1]
    have q : 2 * uN l % 18446744073709551616 = uN l % 9223372036854775808 * 2 ^ 1 := by omega
    rw [q, or_add (by decide)]
theorem ld_alg {X D r r1 b Y X1 : Nat} (h1 : X * D + r = Y) (h3 : X1 = 2 * X + b) (h4 : r1 + b * D = 2 * r) : X1 * D + r1 = Y * 2 := by
  subst h3
  have e : (2 * X + b) * D = 2 * (X * D) + b * D := by grind
  rw [e]
  omega
theorem ld_st (σ : St) (o : Nat) (D r h l r2 h2 l2 : Int64) (i n : Nat) (hi : i < n) (hn : n ≤ 66) (er : jlshl r 1 = r2) (eh : jlshl h 1 ||| jlushr l 63 = h2) (el : jlshl l 1 = l2) :
    ((0 ≤ r ∧ f_Size_isBelow r2 D = true) → b_Size_longDivide_47 o D (nI n) (nI i, lds σ o r h l) = (true, (nI (i + 1), lds σ o r2 h2 l2))) ∧
    ((¬ 0 ≤ r ∨ f_Size_isBelow r2 D = false) → b_Size_longDivide_47 o D (nI n) (nI i, lds σ o r h l) = (true, (nI (i + 1), lds σ o (r2 - D) h2 (l2 ||| 1)))) := by
  have n0 : ¬ nI n ≤ nI i := nI_ge hi (by omega)
  have st0 : sJ (sJ (sJ (lds σ o r h l) 14 o r2) 8 o h2) 9 o l2 = lds σ o r2 h2 l2 := lds_lds _ _ _ _ _ _ _ _
  have st1 : f_Size_longDivide_b123 o D (lds σ o r2 h2 l2) = lds σ o (r2 - D) h2 (l2 ||| 1) := by
    unfold f_Size_longDivide_b123
    simp only [lds_14]
    generalize r2 - D = R1
    have g : gJ (sJ (lds σ o r2 h2 l2) 14 o R1) 9 o = l2 := by
      rw [gJ_sJ, if_neg (by decide)]
      exact lds_9 _ _ _ _ _
    rw [g]
    exact lds_149 _ _ _ _ _ _ _
  have g1 : gJ (lds σ o r h l) 14 o = r := lds_14 _ _ _ _ _
  have g2 : gJ (sJ (lds σ o r h l) 14 o r2) 8 o = h := by simp [gJ_sJ, lds_8]
  have g3 : gJ (sJ (lds σ o r h l) 14 o r2) 9 o = l := by simp [gJ_sJ, lds_9]
  have g4 : gJ (sJ (sJ (lds σ o r h l) 14 o r2) 8 o h2) 9 o = l := by simp [gJ_sJ, lds_9]
  have g5 : gJ (lds σ o r2 h2 l2) 14 o = r2 := lds_14 _ _ _ _ _
  have i1 : nI i + 1 = nI (i + 1) := nI_1 i
  generalize nI (i + 1) = I1 at *
  constructor
  · intro ⟨q1, q2⟩
    unfold b_Size_longDivide_47
    simp only [n0, if_false, g1, er, g2, g3, eh, g4, el, st0, g5, i1, q1, q2, if_true, Bool.false_eq_true]
  · intro q
    unfold b_Size_longDivide_47
    by_cases q1 : 0 ≤ r
    · rcases q with q | q2
      · exact absurd q1 q
      · simp only [n0, if_false, g1, er, g2, g3, eh, g4, el, st0, g5, i1, q1, q2, if_true, Bool.false_eq_true, st1]
    · simp only [n0, if_false, g1, er, g2, g3, eh, g4, el, st0, g5, i1, q1, if_true, st1]
theorem ld_num {D r r2 : Int64} (hr : uN r < uN D) (er : jlshl r 1 = r2) : (uN r < 9223372036854775808 ∧ uN r2 < uN D ∧ uN r2 = 2 * uN r) ∨ ((¬ uN r < 9223372036854775808 ∨ ¬ uN r2 < uN D) ∧ uN (r2 - D) + uN D = 2 * uN r ∧ uN (r2 - D) < uN D) := by
  have bD := uN_lt D
  have br := uN_lt r
  have e2 : uN r2 = 2 * uN r % 18446744073709551616 := by
    rw [← er]
    exact dbl1 r
  have e3 := uN_sub r2 D
  omega
theorem ld_step (σ : St) (o : Nat) (D r h l : Int64) (i n : Nat) (hi : i < n) (hn : n ≤ 66) (hr : uN r < uN D) (hh : uN h < 9223372036854775808) :
    ∃ (b : Nat) (r1 h1 l1 : Int64), b_Size_longDivide_47 o D (nI n) (nI i, lds σ o r h l) = (true, (nI (i + 1), lds σ o r1 h1 l1)) ∧ b ≤ 1 ∧ uN h1 * 2 ^ 64 + uN l1 = 2 * (uN h * 2 ^ 64 + uN l) + b ∧ uN r1 + b * uN D = 2 * uN r ∧ uN r1 < uN D := by
  obtain ⟨k1, k2⟩ := dbl128 (h := h) (l := l) hh
  obtain ⟨s1, s2⟩ := ld_st σ o D r h l _ _ _ i n hi hn rfl rfl rfl
  generalize jlshl h 1 ||| jlushr l 63 = h2 at *
  generalize jlshl l 1 = l2 at *
  rcases ld_num (D := D) hr rfl with ⟨c1, c2, c3⟩ | ⟨c1, c2, c3⟩
  · refine ⟨0, _, _, _, s1 ⟨uN_nn.mpr c1, ?_⟩, Nat.zero_le _, by rw [Nat.add_zero]; exact k1, by rw [Nat.zero_mul, Nat.add_zero]; exact c3, c2⟩
    rw [isBelow_eq]
    exact decide_eq_true c2
  · refine ⟨1, _, _, _, s2 ?_, Nat.le_refl _, ?_, by rw [Nat.one_mul]; exact c2, c3⟩
    · rcases c1 with c1 | c1
      · exact Or.inl (fun q => c1 (uN_nn.mp q))
      · right
        rw [isBelow_eq]
        exact decide_eq_false c1
    · rw [k2, ← Nat.add_assoc, k1]
theorem longDivide_spec (σ : St) (o : Nat) (D : Int64) (n : Nat) (hn : n ≤ 66) (hD : 2 ^ 63 ≤ uN D) :
    ∃ r h l : Int64, f_Size_longDivide σ o D (nI n) = lds σ o r h l ∧ (uN h * 2 ^ 64 + uN l) * uN D + uN r = uN (gJ σ 8 o) * 2 ^ n ∧ uN r < uN D := by
  have bD := uN_lt D
  have bx := uN_lt (gJ σ 8 o)
  have u0 : uN 0 = 0 := rfl
  have u1 : uN 1 = 1 := rfl
  have st : ∃ r0 l0 : Int64, (if f_Size_isBelow (gJ (sJ (sJ (sJ σ 14 o (gJ σ 8 o)) 8 o 0) 9 o 0) 14 o) D = true then (sJ (sJ (sJ σ 14 o (gJ σ 8 o)) 8 o 0) 9 o 0) else sJ (sJ (sJ (sJ (sJ σ 14 o (gJ σ 8 o)) 8 o 0) 9 o 0) 14 o (gJ (sJ (sJ (sJ σ 14 o (gJ σ 8 o)) 8 o 0) 9 o 0) 14 o - D)) 9 o 1) = lds σ o r0 0 l0 ∧ uN l0 ≤ 1 ∧ uN l0 * uN D + uN r0 = uN (gJ σ 8 o) ∧ uN r0 < uN D := by
    have q0 : sJ (sJ (sJ σ 14 o (gJ σ 8 o)) 8 o 0) 9 o 0 = lds σ o (gJ σ 8 o) 0 0 := rfl
    rw [q0, lds_14, isBelow_eq]
    by_cases c : uN (gJ σ 8 o) < uN D
    · refine ⟨gJ σ 8 o, 0, ?_, by rw [u0]; omega, by rw [u0]; omega, c⟩
      simp [c]
    · refine ⟨gJ σ 8 o - D, 1, ?_, by rw [u1]; omega, by rw [u1, uN_sub]; omega, by rw [uN_sub]; omega⟩
      simp only [c, decide_false, Bool.false_eq_true, if_false]
      exact lds_149 _ _ _ _ _ _ _
  obtain ⟨r0, l0, s1, s2, s3, s4⟩ := st
  have lp : ∃ r h l : Int64, (lpn (b_Size_longDivide_47 o D (nI n)) (upf (nI n) 0) (0, lds σ o r0 0 l0)).2 = lds σ o r h l ∧ (uN h * 2 ^ 64 + uN l) * uN D + uN r = uN (gJ σ 8 o) * 2 ^ n ∧ uN r < uN D := by
    refine lpn_P (b := b_Size_longDivide_47 o D (nI n)) (fun i t => ∃ r h l : Int64, t = (nI i, lds σ o r h l) ∧ (uN h * 2 ^ 64 + uN l) * uN D + uN r = uN (gJ σ 8 o) * 2 ^ i ∧ uN r < uN D ∧ uN h * 2 ^ 64 + uN l < 2 ^ (i + 1)) (fun y => ∃ r h l : Int64, y.2 = lds σ o r h l ∧ (uN h * 2 ^ 64 + uN l) * uN D + uN r = uN (gJ σ 8 o) * 2 ^ n ∧ uN r < uN D) n ?_ ?_ ?_ ⟨r0, 0, l0, rfl, by rw [u0, Nat.zero_mul, Nat.zero_add, Nat.pow_zero, Nat.mul_one]; exact s3, s4, by rw [u0]; omega⟩
    · intro i t hi ⟨r, h, l, et, e1, e2, e3⟩
      subst et
      have hh : uN h < 9223372036854775808 := by
        have : 2 ^ (i + 1) ≤ 2 ^ 66 := Nat.pow_le_pow_right (by decide) (by omega)
        have e : (2 : Nat) ^ 66 = 73786976294838206464 := by decide
        omega
      obtain ⟨b, r1, h1, l1, d1, d2, d3, d4, d5⟩ := ld_step σ o D r h l i n hi hn e2 hh
      refine ⟨_, d1, r1, h1, l1, rfl, ?_, d5, ?_⟩
      · have e5 : (2 : Nat) ^ (i + 1) = 2 ^ i * 2 := Nat.pow_succ _ _
        rw [e5, ← Nat.mul_assoc]
        exact ld_alg e1 d3 d4
      · rw [d3, Nat.pow_succ]
        omega
    · intro t ⟨r, h, l, et, e1, e2, e3⟩
      subst et
      refine ⟨(nI n, lds σ o r h l), ?_, r, h, l, rfl, e1, e2⟩
      unfold b_Size_longDivide_47
      have : nI n ≤ nI n := nI_le (Nat.le_refl _) (by omega)
      simp only [this, if_true]
    · unfold upf
      have e1 : (nI n).toInt = n := nI_toInt (by omega)
      have e2 : (0 : Int32).toInt = 0 := by decide
      rw [e1, e2]
      omega
  obtain ⟨r, h, l, t1, t2, t3⟩ := lp
  refine ⟨r, h, l, ?_, t2, t3⟩
  rw [← t1]
  unfold f_Size_longDivide
  simp only [s1]
