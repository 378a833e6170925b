/-! quotients and roots of sizes -/
theorem quo_eq {q D r X : Nat} (h : q * D + r = X) (hr : r < D) : q = X / D ∧ r = X % D := by
  constructor
  · rw [← h, Nat.mul_comm, Nat.mul_add_div (by omega), Nat.div_eq_of_lt hr, Nat.add_zero]
  · rw [← h, Nat.mul_comm, Nat.mul_add_mod, Nat.mod_eq_of_lt hr]
theorem lds_szm (σ : St) (o : Nat) (r h l : Int64) (m : Bool) (u : Int32) : sI (sZ (lds σ o r h l) 10 o m) 11 o u = szm (sJ σ 14 o r) o h l m u := by
  apply St_ext <;> intro k x <;> simp only [lds, szm_I, szm_J, szm_Z, gI_sI, gI_sJ, gI_sZ, gJ_sI, gJ_sJ, gJ_sZ, gZ_sI, gZ_sJ, gZ_sZ] <;> grind
theorem lds_I (σ : St) (o : Nat) (r h l : Int64) (k x : Nat) : gI (lds σ o r h l) k x = gI σ k x := rfl
theorem lds_Z (σ : St) (o : Nat) (r h l : Int64) (k x : Nat) : gZ (lds σ o r h l) k x = gZ σ k x := rfl
theorem divide_spec (σ : St) (o a1 : Nat) (hD : 2 ^ 63 ≤ uN (gJ σ 8 a1)) (hu : -100000 ≤ (gI σ 11 o).toInt ∧ (gI σ 11 o).toInt ≤ 100000) (hv : -100000 ≤ (gI σ 11 a1).toInt ∧ (gI σ 11 a1).toInt ≤ 100000) (S : Nat) (hS : S = uN (gJ σ 8 o) * 2 ^ 66 / uN (gJ σ 8 a1)) (M : Bool) (hM : M = decide (uN (gJ σ 8 o) * 2 ^ 66 % uN (gJ σ 8 a1) ≠ 0)) :
    ∃ (r h l : Int64) (u : Int32), f_Size_divide σ o a1 = szm (sJ σ 14 o r) o h l M u ∧ ((S = 0 ∧ h = 0 ∧ l = 0) ∨ (2 ^ 63 ≤ uN h ∧ ∃ j : Nat, j < 128 ∧ uN h * 2 ^ 64 + uN l = S * 2 ^ j ∧ u.toInt = (gI σ 11 o).toInt - (gI σ 11 a1).toInt - 66 - j)) := by
  obtain ⟨r, h, l, c1, c2, c3⟩ := longDivide_spec σ o (gJ σ 8 a1) 66 (Nat.le_refl _) hD
  obtain ⟨q1, q2⟩ := quo_eq c2 c3
  rw [← hS] at q1
  rw [← q2] at hM
  have n66 : nI 66 = (66 : Int32) := rfl
  rw [n66] at c1
  have e66 : (66 : Int32).toInt = 66 := by decide
  have u1 : (gI σ 11 a1 + 66).toInt = (gI σ 11 a1).toInt + 66 := by rw [i32_addT (by omega) (by omega), e66]
  have u2 : (gI σ 11 o - (gI σ 11 a1 + 66)).toInt = (gI σ 11 o).toInt - ((gI σ 11 a1).toInt + 66) := by rw [i32_subT (by omega) (by omega), u1]
  have m1 : (if r = 0 then false else true) = M := by
    rw [hM]
    simp only [uN_eq0]
    by_cases hc : uN r = 0 <;> simp [hc]
  obtain ⟨h1, l1, u3, d1, d2⟩ := normalise_szm (sJ σ 14 o r) o h l M (gI σ 11 o - (gI σ 11 a1 + 66)) (by omega)
  rw [q1, u2] at d2
  refine ⟨r, h1, l1, u3, ?_, ?_⟩
  · rw [← d1]
    unfold f_Size_divide
    simp only [c1, lds_14, m1, gI_sZ, lds_I]
    rw [lds_szm]
  · rcases d2 with d | ⟨d, j, d3, d4, d5⟩
    · exact Or.inl d
    · exact Or.inr ⟨d, j, d3, d4, by omega⟩
/-! roots -/
def rts (σ : St) (o : Nat) (h l : Int64) : St := sJ (sJ σ 8 o h) 9 o l
theorem rts_8 (σ : St) (o : Nat) (h l : Int64) : gJ (rts σ o h l) 8 o = h := by simp [rts, gJ_sJ]
theorem rts_9 (σ : St) (o : Nat) (h l : Int64) : gJ (rts σ o h l) 9 o = l := by simp [rts, gJ_sJ]
theorem rts_rts (σ : St) (o : Nat) (h l h1 l1 : Int64) : rts (rts σ o h l) o h1 l1 = rts σ o h1 l1 := by
  apply St_ext <;> intro k x <;> simp only [rts, gI_sJ, gJ_sJ, gZ_sJ] <;> grind
theorem rts_l (σ : St) (o : Nat) (h l l1 : Int64) : sJ (rts σ o h l) 9 o l1 = rts σ o h l1 := sJ_sJ _ _ _ _ _
theorem root_st (σ : St) (o : Nat) (odd : Bool) (i : Nat) (hi : i < 66) (rL rH bits h l v2 v3 v4 v5 v6 h2 l2 : Int64) (wd : Int32) (ew : (if odd = true then (if nI i = 0 then (1 : Int32) else 2) else 2) = wd)
    (e2 : jlshl rH 2 ||| jlushr rL 62 = v2) (e3 : jlshl rL 2 ||| jlushr bits (64 - wd) = v3) (e4 : jlshl bits wd = v4) (e5 : jlshl h 2 ||| jlushr l 62 = v5) (e6 : jlshl l 2 ||| 1 = v6) (e7 : jlshl h 1 ||| jlushr l 63 = h2) (e8 : jlshl l 1 = l2) :
    ((v5 < v2 ∨ (v2 = v5 ∧ f_Size_isBelow v3 v6 = false)) → b_Size_root_39 o odd (nI i, rL, rH, bits, rts σ o h l) = (true, (nI (i + 1), v3 - v6, v2 - (v5 + (if f_Size_isBelow v3 v6 = true then 1 else 0)), v4, rts σ o h2 (l2 ||| 1)))) ∧
    (¬ (v5 < v2 ∨ (v2 = v5 ∧ f_Size_isBelow v3 v6 = false)) → b_Size_root_39 o odd (nI i, rL, rH, bits, rts σ o h l) = (true, (nI (i + 1), v3, v2, v4, rts σ o h2 l2))) := by
  have n0 : ¬ (66 : Int32) ≤ nI i := nI_ge (b := 66) hi (by decide)
  have i1 : nI i + 1 = nI (i + 1) := nI_1 i
  have st0 : sJ (sJ (rts σ o h l) 8 o h2) 9 o l2 = rts σ o h2 l2 := rts_rts _ _ _ _ _ _
  have g1 : gJ (rts σ o h l) 8 o = h := rts_8 _ _ _ _
  have g2 : gJ (rts σ o h l) 9 o = l := rts_9 _ _ _ _
  have g3 : gJ (sJ (rts σ o h l) 8 o h2) 9 o = l := by
    rw [gJ_sJ, if_neg (by decide)]
    exact rts_9 _ _ _ _
  have tb : ∀ c : Bool, Int32.toInt64 (bI (if c = true then true else false)) = (if c = true then 1 else 0) := fun c => by cases c <;> rfl
  have b173 : f_Size_root_b173 o v2 v3 v5 v6 (rts σ o h2 l2) = (v3 - v6, v2 - (v5 + (if f_Size_isBelow v3 v6 = true then 1 else 0)), rts σ o h2 (l2 ||| 1)) := by
    unfold f_Size_root_b173
    simp only [tb, rts_9, rts_l]
  generalize nI (i + 1) = I1 at *
  constructor
  · intro q
    unfold b_Size_root_39
    by_cases c1 : v5 < v2
    · simp only [n0, if_false, ew, e2, e3, e4, g1, g2, e5, e6, e7, g3, e8, st0, c1, if_true, b173, i1]
    · rcases q with q | ⟨q1, q2⟩
      · exact absurd q c1
      · simp only [n0, if_false, ew, e2, e3, e4, g1, g2, e5, e6, e7, g3, e8, st0, c1, b173, i1, q2, Bool.false_eq_true]
        rw [if_pos q1]
  · intro q
    have c1 : ¬ v5 < v2 := fun z => q (Or.inl z)
    unfold b_Size_root_39
    by_cases c2 : v2 = v5
    · have c3 : f_Size_isBelow v3 v6 = true := by
        cases hb : f_Size_isBelow v3 v6 with
        | true => rfl
        | false => exact absurd (Or.inr ⟨c2, hb⟩) q
      simp only [n0, if_false, ew, e2, e3, e4, g1, g2, e5, e6, e7, g3, e8, st0, c1, i1, c3, if_true]
      rw [if_pos c2]
    · simp only [n0, if_false, ew, e2, e3, e4, g1, g2, e5, e6, e7, g3, e8, st0, c1, i1, c2]
theorem quad128 {h l : Int64} (hh : uN h < 4611686018427387904) {t : Int64} (ht : uN t < 4) : uN (jlshl h 2 ||| jlushr l 62) * 2 ^ 64 + uN (jlshl l 2 ||| t) = 4 * (uN h * 2 ^ 64 + uN l) + uN t := by
  have bl := uN_lt l
  have e62 : uN (jlushr l 62) = uN l / 4611686018427387904 := uN_jlushr l (y := 62) 62 rfl (by decide)
  have d2 : ∀ x : Int64, uN (jlshl x 2) = uN x * 4 % 18446744073709551616 := fun x => uN_jlshl x (y := 2) 2 rfl (by decide)
  rw [uN_orr, uN_orr, d2, d2, e62]
  have q1 : uN h * 4 % 18446744073709551616 = uN h * 2 ^ 2 := by omega
  have q2 : uN l * 4 % 18446744073709551616 = uN l % 4611686018427387904 * 2 ^ 2 := by omega
  rw [q1, q2, or_add (by omega), or_add (by omega)]
  omega
theorem rt_alg {R rest two B : Nat} (h1 : B = R * R + rest) (h2 : rest ≤ 2 * R) (h3 : two < 4) : (4 * R + 1 ≤ 4 * rest + two → 4 * B + two = (2 * R + 1) * (2 * R + 1) + (4 * rest + two - (4 * R + 1)) ∧ 4 * rest + two - (4 * R + 1) ≤ 2 * (2 * R + 1)) ∧ (¬ 4 * R + 1 ≤ 4 * rest + two → 4 * B + two = (2 * R) * (2 * R) + (4 * rest + two) ∧ 4 * rest + two ≤ 2 * (2 * R)) := by
  subst h1
  have e1 : (2 * R + 1) * (2 * R + 1) = 4 * (R * R) + 4 * R + 1 := by grind
  have e2 : (2 * R) * (2 * R) = 4 * (R * R) := by grind
  rw [e1, e2]
  generalize R * R = Q
  constructor <;> intro h <;> omega
def cc (odd : Bool) (i : Nat) : Nat := 2 * i - odd.toNat
theorem root_step (σ : St) (o : Nat) (odd : Bool) (i : Nat) (hi : i < 66) (X : Nat) (rL rH bits h l : Int64) (B R rest : Nat) (hRR : uN h * 2 ^ 64 + uN l = R) (hrr : uN rH * 2 ^ 64 + uN rL = rest)
    (hB : X * 2 ^ cc odd i = B * 2 ^ 64 + uN bits) (hB0 : i = 0 → B = 0) (hR : B = R * R + rest) (hr : rest ≤ 2 * R) (hs : R < 2 ^ i) :
    ∃ (rL1 rH1 bits1 h1 l1 : Int64) (B1 R1 rest1 : Nat), b_Size_root_39 o odd (nI i, rL, rH, bits, rts σ o h l) = (true, (nI (i + 1), rL1, rH1, bits1, rts σ o h1 l1)) ∧
      uN h1 * 2 ^ 64 + uN l1 = R1 ∧ uN rH1 * 2 ^ 64 + uN rL1 = rest1 ∧ X * 2 ^ cc odd (i + 1) = B1 * 2 ^ 64 + uN bits1 ∧ B1 = R1 * R1 + rest1 ∧ rest1 ≤ 2 * R1 ∧ R1 < 2 ^ (i + 1) := by
  have bb := uN_lt bits
  have hs2 : R < 73786976294838206464 := by
    have : 2 ^ i ≤ 2 ^ 66 := Nat.pow_le_pow_right (by decide) (by omega)
    have e : (2 : Nat) ^ 66 = 73786976294838206464 := by decide
    omega
  have hh : uN h < 4 := by omega
  have hrH : uN rH < 8 := by omega
  -- the two bits that come down
  obtain ⟨wd, two, ew, w1, w2, w3⟩ : ∃ (wd : Int32) (two : Nat), (if odd = true then (if nI i = 0 then (1 : Int32) else 2) else 2) = wd ∧ two < 4 ∧ uN (jlushr bits (64 - wd)) = two ∧ X * 2 ^ cc odd (i + 1) = (4 * B + two) * 2 ^ 64 + uN (jlshl bits wd) := by
    by_cases c : odd = true ∧ i = 0
    · obtain ⟨rfl, rfl⟩ := c
      have B0 := hB0 rfl
      subst B0
      refine ⟨1, uN bits / 2 ^ 63, rfl, by omega, ?_, ?_⟩
      · exact uN_jlushr bits (y := 64 - 1) 63 rfl (by decide)
      · have e1 : cc true (0 + 1) = 1 := rfl
        have e0 : cc true 0 = 0 := rfl
        rw [e0] at hB
        rw [e1, dbl1]
        omega
    · refine ⟨2, uN bits / 2 ^ 62, ?_, by omega, ?_, ?_⟩
      · by_cases c1 : odd = true
        · have c2 : ¬ nI i = 0 := nI_ne0 (Nat.pos_of_ne_zero (fun q => c ⟨c1, q⟩)) (by omega)
          rw [if_pos c1, if_neg c2]
        · rw [if_neg c1]
      · exact uN_jlushr bits (y := 64 - 2) 62 rfl (by decide)
      · have e1 : cc odd (i + 1) = cc odd i + 2 := by
          unfold cc
          cases odd
          · simp
            omega
          · have : i ≠ 0 := fun q => c ⟨rfl, q⟩
            simp
            omega
        rw [e1, Nat.pow_add, ← Nat.mul_assoc, hB, uN_jlshl bits (y := 2) 2 rfl (by decide)]
        omega
  have t4 : uN (jlushr bits (64 - wd)) < 4 := by rw [w2]; exact w1
  have k1 := quad128 (h := rH) (l := rL) (by omega) t4
  rw [w2, hrr] at k1
  have one4 : uN 1 < 4 := by decide
  have k2 := quad128 (h := h) (l := l) (by omega) one4
  have e1 : uN 1 = 1 := rfl
  rw [e1, hRR] at k2
  obtain ⟨k3, k4⟩ := dbl128 (h := h) (l := l) (by omega)
  rw [hRR] at k3
  obtain ⟨s1, s2⟩ := root_st σ o odd i hi rL rH bits h l _ _ _ _ _ _ _ wd ew rfl rfl rfl rfl rfl rfl rfl
  have sb := @sub128 (jlshl rH 2 ||| jlushr rL 62) (jlshl rL 2 ||| jlushr bits (64 - wd)) (jlshl h 2 ||| jlushr l 62) (jlshl l 2 ||| 1)
  obtain ⟨a1, a2⟩ := rt_alg hR hr w1
  have p1 : (2 : Nat) ^ (i + 1) = 2 * 2 ^ i := by rw [Nat.pow_succ, Nat.mul_comm]
  generalize jlshl rH 2 ||| jlushr rL 62 = v2 at *
  generalize jlshl rL 2 ||| jlushr bits (64 - wd) = v3 at *
  generalize jlshl h 2 ||| jlushr l 62 = v5 at *
  generalize jlshl l 2 ||| 1 = v6 at *
  generalize jlshl h 1 ||| jlushr l 63 = h2 at *
  generalize jlshl l 1 = l2 at *
  generalize jlshl bits wd = v4 at *
  have b3 := uN_lt v3
  have b6 := uN_lt v6
  have cmp : (v5 < v2 ∨ (v2 = v5 ∧ f_Size_isBelow v3 v6 = false)) ↔ 4 * R + 1 ≤ 4 * rest + two := by
    have i5 := uN_int v5
    have i2 := uN_int v2
    have b5 : uN v5 < 1000 := by omega
    have b2 : uN v2 < 1000 := by omega
    have lt : (v5 < v2) ↔ uN v5 < uN v2 := by
      rw [Int64.lt_iff_toInt_lt, i5, i2, if_pos (by omega), if_pos (by omega)]
      omega
    have eq : (v2 = v5) ↔ uN v2 = uN v5 := uN_eq
    have bl : (f_Size_isBelow v3 v6 = false) ↔ ¬ uN v3 < uN v6 := by
      rw [isBelow_eq]
      exact decide_eq_false_iff_not
    rw [lt, eq, bl, ← k1, ← k2]
    omega
  by_cases c : 4 * R + 1 ≤ 4 * rest + two
  · obtain ⟨z1, z2⟩ := a1 c
    have sb2 := sb (by rw [k1, k2]; exact c)
    rw [k1, k2] at sb2
    have sb3 : uN (v2 - (v5 + (if f_Size_isBelow v3 v6 = true then 1 else 0))) * 2 ^ 64 + uN (v3 - v6) = 4 * rest + two - (4 * R + 1) := Nat.eq_sub_of_add_eq sb2
    have k5 : uN h2 * 2 ^ 64 + uN (l2 ||| 1) = 2 * R + 1 := by rw [k4, ← Nat.add_assoc, k3]
    refine ⟨_, _, _, _, _, 4 * B + two, 2 * R + 1, 4 * rest + two - (4 * R + 1), s1 (cmp.mpr c), k5, sb3, w3, z1, z2, ?_⟩
    rw [p1]
    omega
  · obtain ⟨z1, z2⟩ := a2 c
    refine ⟨_, _, _, _, _, 4 * B + two, 2 * R, 4 * rest + two, s2 (fun q => c (cmp.mp q)), k3, k1, w3, z1, z2, ?_⟩
    rw [p1]
    omega
theorem root_loop (σ : St) (o : Nat) (odd : Bool) (X : Int64) :
    ∃ (rL rH bits h l : Int64) (R rest : Nat), lpn (b_Size_root_39 o odd) (upf 66 0) (0, 0, 0, X, rts σ o 0 0) = (66, rL, rH, bits, rts σ o h l) ∧ uN h * 2 ^ 64 + uN l = R ∧ uN rH * 2 ^ 64 + uN rL = rest ∧ R * R + rest = uN X * 2 ^ (68 - odd.toNat) ∧ rest ≤ 2 * R := by
  have u0 : uN 0 = 0 := rfl
  have bX := uN_lt X
  refine lpn_P (b := b_Size_root_39 o odd) (fun i t => ∃ (rL rH bits h l : Int64) (B R rest : Nat), t = (nI i, rL, rH, bits, rts σ o h l) ∧ uN h * 2 ^ 64 + uN l = R ∧ uN rH * 2 ^ 64 + uN rL = rest ∧ uN X * 2 ^ cc odd i = B * 2 ^ 64 + uN bits ∧ (i = 0 → B = 0) ∧ B = R * R + rest ∧ rest ≤ 2 * R ∧ R < 2 ^ i) (fun y => ∃ (rL rH bits h l : Int64) (R rest : Nat), y = (66, rL, rH, bits, rts σ o h l) ∧ uN h * 2 ^ 64 + uN l = R ∧ uN rH * 2 ^ 64 + uN rL = rest ∧ R * R + rest = uN X * 2 ^ (68 - odd.toNat) ∧ rest ≤ 2 * R) 66 ?_ ?_ (by decide) ?_
  · intro i t hi ⟨rL, rH, bits, h, l, B, R, rest, et, e1, e2, e3, e4, e5, e6, e7⟩
    subst et
    obtain ⟨rL1, rH1, bits1, h1, l1, B1, R1, rest1, d1, d2, d3, d4, d5, d6, d7⟩ := root_step σ o odd i hi (uN X) rL rH bits h l B R rest e1 e2 e3 e4 e5 e6 e7
    exact ⟨_, d1, rL1, rH1, bits1, h1, l1, B1, R1, rest1, rfl, d2, d3, d4, fun q => absurd q (by omega), d5, d6, d7⟩
  · intro t ⟨rL, rH, bits, h, l, B, R, rest, et, e1, e2, e3, e4, e5, e6, e7⟩
    subst et
    refine ⟨(66, rL, rH, bits, rts σ o h l), ?_, rL, rH, bits, h, l, R, rest, rfl, e1, e2, ?_, e6⟩
    · unfold b_Size_root_39
      have n66 : nI 66 = (66 : Int32) := rfl
      simp only [n66, Int32.le_refl, if_true]
    · rw [← e5]
      have bb := uN_lt bits
      have c1 : 2 ^ cc odd 66 = 2 ^ (68 - odd.toNat) * 2 ^ 64 := by cases odd <;> decide
      rw [c1, ← Nat.mul_assoc] at e3
      generalize uN X * 2 ^ (68 - odd.toNat) = Y at *
      omega
  · refine ⟨0, 0, X, 0, 0, 0, 0, 0, rfl, by rw [u0], by rw [u0], ?_, fun _ => rfl, rfl, Nat.le_refl _, by decide⟩
    have : cc odd 0 = 0 := by cases odd <;> rfl
    rw [this]
    omega
theorem root_spec (σ : St) (o : Nat) (hX : 2 ^ 63 ≤ uN (gJ σ 8 o)) (hu : -100000 ≤ (gI σ 11 o).toInt ∧ (gI σ 11 o).toInt ≤ 100000) (odd : Nat) (hodd : (odd : Int) = (gI σ 11 o).toInt % 2) :
    ∃ (h l : Int64) (u : Int32) (R rest : Nat), f_Size_root σ o = szm σ o h l (decide (rest ≠ 0)) u ∧ R * R + rest = uN (gJ σ 8 o) * 2 ^ (68 - odd) ∧ rest ≤ 2 * R ∧ 2 ^ 65 ≤ R ∧ (2 ^ 63 ≤ uN h ∧ ∃ j : Nat, j < 128 ∧ uN h * 2 ^ 64 + uN l = R * 2 ^ j ∧ 2 * (u.toInt + j) = (gI σ 11 o).toInt + 64 - (68 - odd)) := by
  have bX := uN_lt (gJ σ 8 o)
  have ho : odd = 0 ∨ odd = 1 := by omega
  obtain ⟨ob, hob⟩ : ∃ b : Bool, b.toNat = odd := by
    rcases ho with rfl | rfl
    · exact ⟨false, rfl⟩
    · exact ⟨true, rfl⟩
  have t1 : (if gI σ 11 o &&& 1 = 0 then false else true) = ob := by
    have e1 : gI σ 11 o &&& 1 = nI ((gI σ 11 o).toBitVec.toNat % 2 ^ 1) := pk_and (gI σ 11 o) 1 (by decide)
    have e2 : (gI σ 11 o).toInt = if 2 * (gI σ 11 o).toBitVec.toNat < 2 ^ 32 then ((gI σ 11 o).toBitVec.toNat : Int) else ((gI σ 11 o).toBitVec.toNat : Int) - (2 ^ 32 : Nat) := BitVec.toInt_eq_toNat_cond _
    have e3 : (gI σ 11 o).toBitVec.toNat % 2 = odd := by
      split at e2 <;> omega
    simp only [e1, nI_eq0 (show (gI σ 11 o).toBitVec.toNat % 2 ^ 1 < 2 ^ 31 by omega)]
    have e4 : (gI σ 11 o).toBitVec.toNat % 2 ^ 1 = odd := e3
    rw [e4]
    rcases ho with rfl | rfl <;> cases ob <;> simp_all
  obtain ⟨rL, rH, bits, h, l, R, rest, c1, c2, c3, c4, c5⟩ := root_loop σ o ob (gJ σ 8 o)
  rw [hob] at c4
  have hR : 2 ^ 65 ≤ R := by
    refine Classical.byContradiction (fun q => ?_)
    have q1 : R + 1 ≤ 2 ^ 65 := by omega
    have q2 : (R + 1) * (R + 1) ≤ 2 ^ 65 * 2 ^ 65 := Nat.mul_le_mul q1 q1
    have q3 : (R + 1) * (R + 1) = R * R + 2 * R + 1 := by grind
    have q4 : 2 ^ 63 * 2 ^ 67 ≤ uN (gJ σ 8 o) * 2 ^ (68 - odd) := Nat.mul_le_mul hX (Nat.pow_le_pow_right (by decide) (by omega))
    have e : (2 : Nat) ^ 63 * 2 ^ 67 = 2 ^ 65 * 2 ^ 65 := by decide
    obtain ⟨T, hT⟩ : ∃ T : Nat, T = 2 ^ 65 * 2 ^ 65 := ⟨_, rfl⟩
    rw [e, ← hT, ← c4] at q4
    rw [← hT, q3] at q2
    generalize R * R = Q at q2 q4
    clear c4 hT e hX q1 q
    omega
  have e64 : (64 : Int32).toInt = 64 := by decide
  obtain ⟨t8, ht8, h8⟩ : ∃ t8 : Int32, (if ob = true then (67 : Int32) else 68) = t8 ∧ t8.toInt = 68 - odd := by
    cases ob
    · refine ⟨68, rfl, ?_⟩
      rw [← hob]
      rfl
    · refine ⟨67, rfl, ?_⟩
      rw [← hob]
      rfl
  have u1 : (gI σ 11 o + 64).toInt = (gI σ 11 o).toInt + 64 := by rw [i32_addT (by omega) (by omega), e64]
  have u2 : (gI σ 11 o + 64 - t8).toInt = (gI σ 11 o).toInt + 64 - (68 - odd) := by rw [i32_subT (by omega) (by omega), u1, h8]
  have u3 : (jshr (gI σ 11 o + 64 - t8) 1).toInt = ((gI σ 11 o).toInt + 64 - (68 - odd)) / 2 := by
    have hh := pk_shr (gI σ 11 o + 64 - t8) ((1 : Int32) &&& 31) 1 (by decide)
    unfold jshr
    rw [hh, Int.shiftRight_eq_div_pow, u2]
    rfl
  have m1 : (if rH = 0 then if rL = 0 then false else true else true) = decide (rest ≠ 0) := by
    rw [← c3]
    simp only [uN_eq0]
    by_cases a : uN rH = 0 <;> by_cases b : uN rL = 0 <;> simp [a, b] <;> omega
  obtain ⟨h1, l1, u4, d1, d2⟩ := normalise_szm σ o h l (decide (rest ≠ 0)) (jshr (gI σ 11 o + 64 - t8) 1) (by omega)
  rw [c2, u3] at d2
  rcases d2 with ⟨d3, -⟩ | ⟨d3, j, d4, d5, d6⟩
  · omega
  · refine ⟨h1, l1, u4, R, rest, ?_, c4, c5, hR, d3, j, d4, d5, by omega⟩
    rw [← d1]
    unfold f_Size_root
    have st : sJ (sJ σ 8 o 0) 9 o 0 = rts σ o 0 0 := rfl
    simp only [t1, st, c1, m1, ht8]
    congr 1
