/-! the class's arithmetic on sizes -/
theorem szm_8 (σ : St) (o : Nat) (h l : Int64) (m : Bool) (u : Int32) : gJ (szm σ o h l m u) 8 o = h := szs_8 _ _ _ _ _
theorem szm_9 (σ : St) (o : Nat) (h l : Int64) (m : Bool) (u : Int32) : gJ (szm σ o h l m u) 9 o = l := szs_9 _ _ _ _ _
theorem szm_10 (σ : St) (o : Nat) (h l : Int64) (m : Bool) (u : Int32) : gZ (szm σ o h l m u) 10 o = m := by simp [szm, szs, gZ_sI, gZ_sJ, gZ_sZ]
theorem szm_11 (σ : St) (o : Nat) (h l : Int64) (m : Bool) (u : Int32) : gI (szm σ o h l m u) 11 o = u := szs_11 _ _ _ _ _
theorem szm_I (σ : St) (o : Nat) (h l : Int64) (m : Bool) (u : Int32) (k x : Nat) : gI (szm σ o h l m u) k x = if k = 11 then (if x = o then u else gI σ k x) else gI σ k x := by simp only [szm, szs, gI_sI, gI_sJ, gI_sZ]
theorem szm_J (σ : St) (o : Nat) (h l : Int64) (m : Bool) (u : Int32) (k x : Nat) : gJ (szm σ o h l m u) k x = if k = 9 then (if x = o then l else if k = 8 then (if x = o then h else gJ σ k x) else gJ σ k x) else if k = 8 then (if x = o then h else gJ σ k x) else gJ σ k x := by simp only [szm, szs, gJ_sI, gJ_sJ, gJ_sZ]
theorem szm_Z (σ : St) (o : Nat) (h l : Int64) (m : Bool) (u : Int32) (k x : Nat) : gZ (szm σ o h l m u) k x = if k = 10 then (if x = o then m else gZ σ k x) else gZ σ k x := by simp only [szm, szs, gZ_sI, gZ_sJ, gZ_sZ]
theorem szm_szm (σ : St) (o : Nat) (h l h1 l1 : Int64) (m m1 : Bool) (u u1 : Int32) : szm (szm σ o h l m u) o h1 l1 m1 u1 = szm σ o h1 l1 m1 u1 := by
  apply St_ext <;> intro k x <;> simp only [szm_I, szm_J, szm_Z] <;> grind
theorem szm_id (σ : St) (o : Nat) : szm σ o (gJ σ 8 o) (gJ σ 9 o) (gZ σ 10 o) (gI σ 11 o) = σ := by
  apply St_ext <;> intro k x <;> simp only [szm_I, szm_J, szm_Z] <;> grind
theorem szm_comm (σ : St) (o p : Nat) (hop : o ≠ p) (h l h1 l1 : Int64) (m m1 : Bool) (u u1 : Int32) : szm (szm σ o h l m u) p h1 l1 m1 u1 = szm (szm σ p h1 l1 m1 u1) o h l m u := by
  apply St_ext <;> intro k x <;> simp only [szm_I, szm_J, szm_Z] <;> grind
theorem shr128 {h l p : Nat} (hp : p ≤ 64) : (h * 2 ^ 64 + l) / 2 ^ p = h / 2 ^ p * 2 ^ 64 + (h % 2 ^ p * 2 ^ (64 - p) + l / 2 ^ p) := by
  have e : (2 : Nat) ^ 64 = 2 ^ p * 2 ^ (64 - p) := by rw [← Nat.pow_add]; congr 1; omega
  have d := Nat.div_add_mod h (2 ^ p)
  have hA := pow_pos2 p
  generalize h / 2 ^ p = q at *
  generalize h % 2 ^ p = r at *
  subst d
  rw [e]
  have : (2 ^ p * q + r) * (2 ^ p * 2 ^ (64 - p)) + l = 2 ^ p * (q * (2 ^ p * 2 ^ (64 - p)) + r * 2 ^ (64 - p)) + l := by
    generalize 2 ^ p = A
    generalize 2 ^ (64 - p) = B
    grind
  rw [this, Nat.mul_add_div hA]
  omega
theorem mod128 {h l p : Nat} (hp : p ≤ 64) : (h * 2 ^ 64 + l) % 2 ^ p = l % 2 ^ p := by
  have : h * 2 ^ 64 % 2 ^ p = 0 := mul_pow_mod0 h p 64 hp
  rw [Nat.add_mod, this, Nat.zero_add, Nat.mod_mod]
/-- shifting right by less than 64 places -/
theorem sr_part {h l : Int64} {p : Nat} (h0 : 0 < p) (hp : p < 64) : uN (jlushr h (nI p)) * 2 ^ 64 + uN (jlushr l (nI p) ||| jlshl h (64 - nI p)) = (uN h * 2 ^ 64 + uN l) / 2 ^ p ∧ ((jlshl l (64 - nI p) = 0) ↔ (uN h * 2 ^ 64 + uN l) % 2 ^ p = 0) := by
  have hl := uN_lt2 l
  have e1 : (64 : Int32) - nI p = nI (64 - p) := c64N (by omega)
  have eA : (2 : Nat) ^ 64 = 2 ^ p * 2 ^ (64 - p) := by rw [← Nat.pow_add]; congr 1; omega
  have sh : ∀ x : Int64, uN (jlshl x (nI (64 - p))) = uN x % 2 ^ p * 2 ^ (64 - p) := fun x => by
    rw [uN_jlshl x (64 - p) rfl (by omega)]
    have := mod_mul_pow (uN x) (64 - p) 64 (by omega)
    rw [show 64 - (64 - p) = p by omega] at this
    exact this
  rw [e1]
  constructor
  · rw [uN_orr, uN_jlushr h p rfl hp, uN_jlushr l p rfl hp, sh h, Nat.or_comm]
    have e2 : uN l / 2 ^ p < 2 ^ (64 - p) := by
      rw [Nat.div_lt_iff_lt_mul (pow_pos2 p), Nat.mul_comm, ← eA]
      exact hl
    rw [or_add e2, shr128 (by omega)]
  · rw [uN_eq0, sh l, mod128 (by omega)]
    have := pow_pos2 (64 - p)
    constructor
    · intro q
      rcases Nat.mul_eq_zero.mp q with q | q
      · exact q
      · omega
    · intro q
      rw [q, Nat.zero_mul]
theorem shiftRight_spec (σ : St) (o d : Nat) (hd : d < 2 ^ 20) :
    ∃ h l : Int64, f_Size_shiftRight σ o (nI d) = szm σ o h l (gZ σ 10 o || decide ((uN (gJ σ 8 o) * 2 ^ 64 + uN (gJ σ 9 o)) % 2 ^ d ≠ 0)) (gI σ 11 o + nI d) ∧ uN h * 2 ^ 64 + uN l = (uN (gJ σ 8 o) * 2 ^ 64 + uN (gJ σ 9 o)) / 2 ^ d := by
  have hl := uN_lt2 (gJ σ 9 o)
  have hh := uN_lt2 (gJ σ 8 o)
  have u0 : uN 0 = 0 := rfl
  by_cases c1 : 128 ≤ d
  · have n1 : ¬ nI d < 128 := nI_nlt (b := 128) c1 (by omega)
    have hN : uN (gJ σ 8 o) * 2 ^ 64 + uN (gJ σ 9 o) < 2 ^ d := by
      have : 2 ^ 128 ≤ 2 ^ d := Nat.pow_le_pow_right (by decide) c1
      have e : (2 : Nat) ^ 128 = 340282366920938463463374607431768211456 := by decide
      omega
    refine ⟨0, 0, ?_, ?_⟩
    · rw [Nat.mod_eq_of_lt hN]
      have q1 : (if gZ σ 10 o = true then true else if gJ σ 8 o = 0 then if gJ σ 9 o = 0 then false else true else true) = (gZ σ 10 o || decide (uN (gJ σ 8 o) * 2 ^ 64 + uN (gJ σ 9 o) ≠ 0)) := by
        simp only [uN_eq0]
        by_cases c : gZ σ 10 o = true <;> by_cases c2 : uN (gJ σ 8 o) = 0 <;> by_cases c3 : uN (gJ σ 9 o) = 0 <;> simp [c, c2, c3] <;> omega
      rw [← q1]
      unfold f_Size_shiftRight
      simp only [n1, if_false]
      apply St_ext <;> intro k x <;> simp only [szm_I, szm_J, szm_Z, gI_sI, gI_sJ, gI_sZ, gJ_sI, gJ_sJ, gJ_sZ, gZ_sI, gZ_sJ, gZ_sZ] <;> grind
    · rw [Nat.div_eq_of_lt hN, u0]
  · have p1 : nI d < 128 := nI_lt (b := 128) (by omega) (by omega)
    by_cases c2 : 64 ≤ d
    · have n2 : ¬ nI d < 64 := nI_nlt (b := 64) c2 (by omega)
      obtain ⟨p, rfl⟩ : ∃ p, d = 64 + p := ⟨d - 64, by omega⟩
      have e64 : nI (64 + p) + (-64) = nI p := by
        have := pk_sub (a := 64 + p) (b := 64) (by omega)
        rw [show 64 + p - 64 = p by omega] at this
        rw [← this]
        have : ∀ x : Int32, x + (-64) = x - nI 64 := fun x => by rw [Int32.sub_eq_add_neg]; rfl
        exact this _
      have eN : (uN (gJ σ 8 o) * 2 ^ 64 + uN (gJ σ 9 o)) / 2 ^ (64 + p) = uN (gJ σ 8 o) / 2 ^ p := by
        rw [Nat.pow_add, ← Nat.div_div_eq_div_mul]
        congr 1
        omega
      have eM : ((uN (gJ σ 8 o) * 2 ^ 64 + uN (gJ σ 9 o)) % 2 ^ (64 + p) = 0) ↔ (uN (gJ σ 9 o) = 0 ∧ uN (gJ σ 8 o) % 2 ^ p = 0) := by
        rw [Nat.pow_add, Nat.mod_mul]
        have a1 : (uN (gJ σ 8 o) * 2 ^ 64 + uN (gJ σ 9 o)) % 2 ^ 64 = uN (gJ σ 9 o) := by omega
        have a2 : (uN (gJ σ 8 o) * 2 ^ 64 + uN (gJ σ 9 o)) / 2 ^ 64 = uN (gJ σ 8 o) := by omega
        rw [a1, a2]
        omega
      by_cases c3 : p = 0
      · subst c3
        refine ⟨0, gJ σ 8 o, ?_, ?_⟩
        · have q1 : (if gZ σ 10 o = true then true else if gJ σ 9 o = 0 then false else true) = (gZ σ 10 o || decide ((uN (gJ σ 8 o) * 2 ^ 64 + uN (gJ σ 9 o)) % 2 ^ (64 + 0) ≠ 0)) := by
            simp only [ne_eq, eM, uN_eq0]
            by_cases c : gZ σ 10 o = true <;> by_cases c2 : uN (gJ σ 9 o) = 0 <;> simp [c, c2, Nat.mod_one]
          rw [← q1]
          have n3 : nI 0 ≤ 0 := by decide
          unfold f_Size_shiftRight
          simp only [p1, n2, if_false, if_true, e64, n3]
          apply St_ext <;> intro k x <;> simp only [szm_I, szm_J, szm_Z, gI_sI, gI_sJ, gI_sZ, gJ_sI, gJ_sJ, gJ_sZ, gZ_sI, gZ_sJ, gZ_sZ] <;> grind
        · rw [eN, u0]
          simp
      · have n3 : ¬ nI p ≤ 0 := nI_nle (by omega) (by omega)
        obtain ⟨r1, r2⟩ := sr_part (h := 0) (l := gJ σ 8 o) (p := p) (by omega) (by omega)
        rw [u0, Nat.zero_mul, Nat.zero_add] at r1 r2
        refine ⟨jlushr 0 (nI p), jlushr (gJ σ 8 o) (nI p) ||| jlshl 0 (64 - nI p), ?_, by rw [eN]; exact r1⟩
        have q1 : (if (if gZ σ 10 o = true then true else if gJ σ 9 o = 0 then false else true) = true then true else if jlshl (gJ σ 8 o) (64 - nI p) = 0 then false else true) = (gZ σ 10 o || decide ((uN (gJ σ 8 o) * 2 ^ 64 + uN (gJ σ 9 o)) % 2 ^ (64 + p) ≠ 0)) := by
          simp only [ne_eq, eM, r2]
          simp only [uN_eq0]
          by_cases c : gZ σ 10 o = true <;> by_cases c2 : uN (gJ σ 9 o) = 0 <;> by_cases c4 : uN (gJ σ 8 o) % 2 ^ p = 0 <;> simp [c, c2, c4]
        rw [← q1]
        unfold f_Size_shiftRight
        simp only [p1, n2, if_false, if_true, e64, n3]
        apply St_ext <;> intro k x <;> simp only [szm_I, szm_J, szm_Z, gI_sI, gI_sJ, gI_sZ, gJ_sI, gJ_sJ, gJ_sZ, gZ_sI, gZ_sJ, gZ_sZ] <;> grind
    · have n2 : nI d < 64 := nI_lt (b := 64) (by omega) (by omega)
      by_cases c3 : d = 0
      · subst c3
        have n3 : nI 0 ≤ 0 := by decide
        refine ⟨gJ σ 8 o, gJ σ 9 o, ?_, by simp⟩
        have q1 : (gZ σ 10 o || decide ((uN (gJ σ 8 o) * 2 ^ 64 + uN (gJ σ 9 o)) % 2 ^ 0 ≠ 0)) = gZ σ 10 o := by simp [Nat.mod_one]
        rw [q1]
        unfold f_Size_shiftRight
        simp only [p1, n2, if_true, n3]
        apply St_ext <;> intro k x <;> simp only [szm_I, szm_J, szm_Z, gI_sI, gI_sJ, gI_sZ, gJ_sI, gJ_sJ, gJ_sZ, gZ_sI, gZ_sJ, gZ_sZ] <;> grind
      · have n3 : ¬ nI d ≤ 0 := nI_nle (by omega) (by omega)
        obtain ⟨r1, r2⟩ := sr_part (h := gJ σ 8 o) (l := gJ σ 9 o) (p := d) (by omega) (by omega)
        refine ⟨jlushr (gJ σ 8 o) (nI d), jlushr (gJ σ 9 o) (nI d) ||| jlshl (gJ σ 8 o) (64 - nI d), ?_, r1⟩
        have q1 : (if gZ σ 10 o = true then true else if jlshl (gJ σ 9 o) (64 - nI d) = 0 then false else true) = (gZ σ 10 o || decide ((uN (gJ σ 8 o) * 2 ^ 64 + uN (gJ σ 9 o)) % 2 ^ d ≠ 0)) := by
          simp only [ne_eq, r2]
          by_cases c : gZ σ 10 o = true <;> by_cases c4 : (uN (gJ σ 8 o) * 2 ^ 64 + uN (gJ σ 9 o)) % 2 ^ d = 0 <;> simp [c, c4]
        rw [← q1]
        unfold f_Size_shiftRight
        simp only [p1, n2, if_false, if_true, n3]
        apply St_ext <;> intro k x <;> simp only [szm_I, szm_J, szm_Z, gI_sI, gI_sJ, gI_sZ, gJ_sI, gJ_sJ, gJ_sZ, gZ_sI, gZ_sJ, gZ_sZ] <;> grind
theorem shiftRight_specN (σ : St) (o d : Nat) (hd : d < 2 ^ 20) (N : Nat) (hN : uN (gJ σ 8 o) * 2 ^ 64 + uN (gJ σ 9 o) = N) (M : Bool) (hM : (gZ σ 10 o || decide (N % 2 ^ d ≠ 0)) = M) (U : Int32) (hU : gI σ 11 o + nI d = U) :
    ∃ h l : Int64, f_Size_shiftRight σ o (nI d) = szm σ o h l M U ∧ uN h * 2 ^ 64 + uN l = N / 2 ^ d := by
  obtain ⟨h, l, c1, c2⟩ := shiftRight_spec σ o d hd
  rw [hN] at c1 c2
  rw [hM, hU] at c1
  exact ⟨h, l, c1, c2⟩
