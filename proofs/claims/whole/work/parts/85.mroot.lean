/-! the reference's root -/
theorem tdiv2 (x : Int) : (0 ≤ x → x.tdiv 2 = x / 2) ∧ (x < 0 → x.tdiv 2 = -((-x) / 2)) := by
  constructor
  · intro h
    exact Int.tdiv_eq_ediv_of_nonneg h
  · intro h
    have e : x.tdiv 2 = -((-x).tdiv 2) := by rw [Int.neg_tdiv, Int.neg_neg]
    rw [e, Int.tdiv_eq_ediv_of_nonneg (by omega)]
theorem div2_toInt (x : Int32) : (x / 2).toInt = x.toInt.tdiv 2 := Int32.toInt_div_of_ne_right x 2 (by decide)
theorem odd_M {v : Int32} {e : Int} (hv : v.toInt = e) (he : -100000 ≤ e ∧ e ≤ 100000) : (if jrem v 2 = 0 then false else true) = decide (e % 2 = 1) := by
  have e2 : (2 : Int32).toInt = 2 := by decide
  have d := div2_toInt v
  rw [hv] at d
  obtain ⟨d1, d2⟩ := tdiv2 e
  have hd : (v / 2).toInt = e / 2 ∧ 0 ≤ e ∨ (v / 2).toInt = -((-e) / 2) ∧ e < 0 := by
    by_cases c : 0 ≤ e
    · exact Or.inl ⟨by rw [d, d1 c], c⟩
    · exact Or.inr ⟨by rw [d, d2 (by omega)], by omega⟩
  clear d d1 d2
  have m : (v / 2 * 2).toInt = (v / 2).toInt * 2 := by
    rw [Int32.toInt_mul, e2, Int.bmod_eq_of_le (by omega) (by omega)]
  have j : (jrem v 2).toInt = e - (v / 2).toInt * 2 := by
    unfold jrem
    rw [i32_subT (by omega) (by omega), hv, m]
  have c : (jrem v 2 = 0) ↔ e % 2 = 0 := by
    rw [← Int32.toInt_inj, j, show (0 : Int32).toInt = 0 from rfl]
    omega
  simp only [c]
  by_cases q : e % 2 = 0
  · have : ¬ e % 2 = 1 := by omega
    simp [q]
  · have : e % 2 = 1 := by omega
    simp [this]
theorem half_M {v : Int32} {e : Int} (hv : v.toInt = e) (he : -100000 ≤ e ∧ e ≤ 100000) : ((if decide (e % 2 = 1) = true then v - 1 else v) / 2 - 70).toInt = (e - oddS e) / 2 - 70 := by
  have e1 : (1 : Int32).toInt = 1 := by decide
  have e70 : (70 : Int32).toInt = 70 := by decide
  have ho : (oddS e : Int) = e % 2 := by unfold oddS; omega
  obtain ⟨t, ht, ht2⟩ : ∃ t : Int32, (if decide (e % 2 = 1) = true then v - 1 else v) = t ∧ t.toInt = e - oddS e := by
    refine ⟨_, rfl, ?_⟩
    by_cases c : e % 2 = 1
    · rw [decide_eq_true c, if_pos rfl, i32_subT (by omega) (by omega), hv, e1]
      omega
    · rw [decide_eq_false c]
      simp only [Bool.false_eq_true, if_false]
      rw [hv]
      omega
  rw [ht]
  have d := div2_toInt t
  rw [ht2] at d
  obtain ⟨d1, d2⟩ := tdiv2 (e - oddS e)
  have hd : (t / 2).toInt = (e - oddS e) / 2 := by
    by_cases c : 0 ≤ e - oddS e
    · rw [d, d1 c]
    · rw [d, d2 (by omega)]
      omega
  rw [i32_subT (by omega) (by omega), hd, e70]
/-- a bit of the number, by its place -/
theorem at_bit {f : Int64} {k j : Nat} {ob : Bool} (hk : k < 104) (hj : j ≤ 1) (K J : Int32) (hK : K = nI k) (hJ : J = nI j) : (if ((2 * K + J) - 140) - (bI (if ob = true then true else false)) < 0 then (0 : Int32) else if 64 ≤ ((2 * K + J) - 140) - (bI (if ob = true then true else false)) then 0 else Int64.toInt32 (jlshr f (((2 * K + J) - 140) - (bI (if ob = true then true else false))) &&& 1)) = nI ((uN f * 2 ^ (140 + ob.toNat)).testBit (2 * k + j)).toNat := by
  subst hK hJ
  have e0 : bI (if ob = true then true else false) = nI ob.toNat := by cases ob <;> rfl
  have ho := Bool.toNat_le ob
  have e1 : 2 * nI k + nI j = nI (2 * k + j) := by
    have : (2 : Int32) * nI k = nI (2 * k) := pk_mul 2 k
    rw [this, nI_add]
  rw [e0, e1, mul_tb]
  generalize ob.toNat = o at *
  have v1 : (nI (2 * k + j) - 140 - nI o).toInt = (2 * k + j : Nat) - 140 - (o : Int) := by
    have a1 : (nI (2 * k + j)).toInt = ((2 * k + j : Nat) : Int) := nI_toInt (by omega)
    have a2 : (nI o).toInt = o := nI_toInt (by omega)
    have a3 : (140 : Int32).toInt = 140 := by decide
    have a4 : (nI (2 * k + j) - 140).toInt = ((2 * k + j : Nat) : Int) - 140 := by rw [i32_subT (by omega) (by omega), a1, a3]
    rw [i32_subT (by omega) (by omega), a4, a2]
  by_cases c : 140 + o ≤ 2 * k + j
  · have e2 : nI (2 * k + j) - 140 - nI o = nI (2 * k + j - (140 + o)) := by
      apply Int32.toInt_inj.mp
      have a5 : (nI (2 * k + j - (140 + o))).toInt = ((2 * k + j - (140 + o) : Nat) : Int) := nI_toInt (by omega)
      rw [v1, a5]
      omega
    have c0 : ¬ nI (2 * k + j - (140 + o)) < 0 := nI_pos (by omega)
    rw [e2, if_neg c0, decide_eq_true c, Bool.true_and]
    by_cases c2 : 64 ≤ 2 * k + j - (140 + o)
    · have c3 : (64 : Int32) ≤ nI (2 * k + j - (140 + o)) := nI_le (a := 64) c2 (by omega)
      have : (uN f).testBit (2 * k + j - (140 + o)) = false := Nat.testBit_lt_two_pow (Nat.lt_of_lt_of_le (uN_lt2 f) (Nat.pow_le_pow_right (by decide) c2))
      rw [if_pos c3, this]
      rfl
    · have c3 : ¬ (64 : Int32) ≤ nI (2 * k + j - (140 + o)) := nI_ge (b := 64) (by omega) (by decide)
      rw [if_neg c3]
      have ub := uN_bitb f (2 * k + j - (140 + o)) (y := nI (2 * k + j - (140 + o))) rfl (by omega)
      generalize jlshr f (nI (2 * k + j - (140 + o))) &&& 1 = z at ub
      rw [ntb]
      have := Nat.mod_two_eq_zero_or_one (uN f / 2 ^ (2 * k + j - (140 + o)))
      rcases this with q | q <;> rw [q] at ub ⊢
      · have : z = 0 := uN_eq0.mpr ub
        rw [this]
        rfl
      · have : z = 1 := uN_inj (ub.trans rfl)
        rw [this]
        rfl
  · have c0 : nI (2 * k + j) - 140 - nI o < 0 := by
      apply Int32.lt_iff_toInt_lt.mpr
      rw [v1, show (0 : Int32).toInt = 0 from rfl]
      omega
    rw [if_pos c0, decide_eq_false c]
    rfl
theorem two_bits (N k : Nat) : 2 * (N.testBit (2 * k + 1)).toNat + (N.testBit (2 * k)).toNat = N / 2 ^ (2 * k) % 4 := by
  rw [ntb, ntb]
  have e : (2 : Nat) ^ (2 * k + 1) = 2 ^ (2 * k) * 2 := Nat.pow_succ _ _
  rw [e, ← Nat.div_div_eq_div_mul]
  generalize N / 2 ^ (2 * k) = M
  have h1 := Nat.mod_two_eq_zero_or_one M
  have h2 := Nat.mod_two_eq_zero_or_one (M / 2)
  rcases h1 with q | q <;> rcases h2 with p | p <;> rw [q, p] <;> simp <;> omega
theorem two_M (ob : Bool) (k : Nat) (hk : k < 104) (K : Int32) (hK : K = nI k) (rt rH lw hg : Int64) (s : St) (f : Int64) (hf : gJ s 108 (jat 0) = f) : (lpn (b_MO_root_90 ob (K, rt, rH, lw, hg, s)) (dnf 1) (1, 0)).2 = nI ((uN f * 2 ^ (140 + ob.toNat)) / 2 ^ (2 * k) % 4) := by
  have b1 := at_bit (f := f) (k := k) (j := 1) (ob := ob) hk (Nat.le_refl _) K 1 hK rfl
  have b0 := at_bit (f := f) (k := k) (j := 0) (ob := ob) hk (by decide) K 0 hK rfl
  rw [← two_bits]
  generalize uN f * 2 ^ (140 + ob.toNat) = N at *
  have s1 : b_MO_root_90 ob (K, rt, rH, lw, hg, s) (1, 0) = (true, (0, nI (N.testBit (2 * k + 1)).toNat)) := by
    have c : ¬ (1 : Int32) < 0 := by decide
    have z : (2 : Int32) * 0 + nI (N.testBit (2 * k + 1)).toNat = nI (N.testBit (2 * k + 1)).toNat := by
      rw [show (2 : Int32) * 0 = nI 0 from rfl, nI_add, Nat.zero_add]
    unfold b_MO_root_90
    simp only [c, if_false, hf, b1, z]
    rfl
  have s0 : b_MO_root_90 ob (K, rt, rH, lw, hg, s) (0, nI (N.testBit (2 * k + 1)).toNat) = (true, (-1, nI (2 * (N.testBit (2 * k + 1)).toNat + (N.testBit (2 * k)).toNat))) := by
    have c : ¬ (0 : Int32) < 0 := by decide
    have z : (2 : Int32) * nI (N.testBit (2 * k + 1)).toNat + nI (N.testBit (2 * k + 0)).toNat = nI (2 * (N.testBit (2 * k + 1)).toNat + (N.testBit (2 * k)).toNat) := by
      rw [show (2 : Int32) * nI (N.testBit (2 * k + 1)).toNat = nI (2 * (N.testBit (2 * k + 1)).toNat) from pk_mul 2 _, nI_add]
      rfl
    unfold b_MO_root_90
    simp only [c, if_false, hf, b0, z]
    rfl
  have s2 : ∀ v, b_MO_root_90 ob (K, rt, rH, lw, hg, s) (-1, v) = (false, (-1, v)) := fun v => by
    have c : (-1 : Int32) < 0 := by decide
    unfold b_MO_root_90
    simp only [c, if_true]
  have d : dnf 1 = 0 + 1 + 1 + 1 := by decide
  rw [d]
  simp only [lpn, s1, s0, s2]
