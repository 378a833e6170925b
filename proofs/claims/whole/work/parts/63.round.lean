/-! rounding a size -/
def rhead (σ : St) (o : Nat) (a1 : Int32) : Bool × Int64 × St :=
  let v1 : Int64 := gJ σ 9 o
  let v2 : Bool := gZ σ 10 o
  let s1 : St := sJ σ 12 o (gJ σ 8 o)
  if a1 ≤ 64 then
    (v2, v1, s1)
  else
    let t2 : Bool :=
        if v2 = true then
          true
        else
          if gJ s1 9 o = 0 then
            false
          else
            true
    let t3 : Int64 :=
        if 128 ≤ a1 then
          0
        else
          jlushr (gJ s1 8 o) (a1 - 64)
    let s2 : St := sJ s1 12 o t3
    let t4 : Int64 :=
        if 128 < a1 then
          jlushr (gJ s2 8 o) 1
        else
          jlshl (gJ s2 8 o) (128 - a1)
    (t2, t4, s2)
def rtail (o : Nat) (t1 : Bool × Int64 × St) (a2 : Int32) (a3 : Bool) : St :=
  let t5 : Bool :=
      if t1.2.1 = 0 then
        if t1.1 = true then
          true
        else
          false
      else
        true
  let s3 : St := sZ t1.2.2 13 o t5
  let t6 : St :=
      if gZ s3 13 o = true then
        if f_Size_roundsUp s3 o t1.2.1 t1.1 a2 a3 = true then
          let s4 : St := sJ s3 12 o ((gJ s3 12 o) + 1)
          s4
        else
          s3
      else
        s3
  t6
theorem round_eq (σ : St) (o : Nat) (a1 a2 : Int32) (a3 : Bool) : f_Size_round σ o a1 a2 a3 = rtail o (rhead σ o a1) a2 a3 := rfl
theorem roundsUp_eq (σ : St) (o : Nat) (cut : Int64) (bey : Bool) (way : Nat) (m : Bool) (hw : way ≤ 4) (hl : (bey || decide (uN cut ≠ 0)) = true) :
    f_Size_roundsUp σ o cut bey (nI way) m = upS way m (uN (gJ σ 12 o), decide (2 ^ 63 ≤ uN cut), bey || decide (uN cut % 2 ^ 63 ≠ 0)) := by
  have hc := uN_lt cut
  have em : uN (-9223372036854775808) = 9223372036854775808 := rfl
  have i0 : (cut = -9223372036854775808) ↔ uN cut = 9223372036854775808 := by rw [uN_eq, em]
  have i2 := @uN_nn cut
  have i3 := uN_bit (gJ σ 12 o)
  have w5 : way = 0 ∨ way = 1 ∨ way = 2 ∨ way = 3 ∨ way = 4 := by omega
  have hl2 : lossy (uN (gJ σ 12 o), decide (2 ^ 63 ≤ uN cut), bey || decide (uN cut % 2 ^ 63 ≠ 0)) = true := by
    unfold lossy
    cases bey
    · simp at hl ⊢
      omega
    · simp
  unfold upS
  rw [hl2]
  unfold f_Size_roundsUp
  rcases w5 with rfl | rfl | rfl | rfl | rfl
  · have c0 : nI 0 = (0 : Int32) := rfl
    simp only [c0, if_true]
    simp only [i0, i2, i3]
    cases bey <;> simp <;> grind
  · have c0 : ¬ nI 1 = (0 : Int32) := by decide
    have c1 : nI 1 = (1 : Int32) := rfl
    simp only [c0, c1, if_true, if_false]
    simp
  · have c0 : ¬ nI 2 = (0 : Int32) := by decide
    have c1 : ¬ nI 2 = (1 : Int32) := by decide
    have c2 : nI 2 = (2 : Int32) := rfl
    simp only [c0, c1, if_false]
    simp only [c2, if_true]
    cases m <;> simp
  · have c0 : ¬ nI 3 = (0 : Int32) := by decide
    have c1 : ¬ nI 3 = (1 : Int32) := by decide
    have c2 : ¬ nI 3 = (2 : Int32) := by decide
    have c3 : nI 3 = (3 : Int32) := rfl
    simp only [c0, c1, c2, if_false]
    simp only [c3, if_true]
    simp
  · have c0 : ¬ nI 4 = (0 : Int32) := by decide
    have c1 : ¬ nI 4 = (1 : Int32) := by decide
    have c2 : ¬ nI 4 = (2 : Int32) := by decide
    have c3 : ¬ nI 4 = (3 : Int32) := by decide
    have c4 : nI 4 = (4 : Int32) := rfl
    simp only [c0, c1, c2, c3, if_false]
    simp only [c4, if_true]
    simp only [i0, i2]
    cases bey <;> simp <;> grind
theorem rtail_eq (σ : St) (o : Nat) (bey : Bool) (cut K0 : Int64) (way : Nat) (m : Bool) (hw : way ≤ 4) (x : Nat × Bool × Bool) (h1 : uN K0 = x.1) (h2 : decide (2 ^ 63 ≤ uN cut) = x.2.1) (h3 : (bey || decide (uN cut % 2 ^ 63 ≠ 0)) = x.2.2) :
    ∃ K : Int64, rtail o (bey, cut, sJ σ 12 o K0) (nI way) m = sZ (sJ σ 12 o K) 13 o (lossy x) ∧ uN K = rnd way m x % 2 ^ 64 := by
  obtain ⟨x1, x2, x3⟩ := x
  simp only at h1 h2 h3
  subst h1 h2 h3
  have hc := uN_lt cut
  have hK := uN_lt K0
  have t5 : (if cut = 0 then if bey = true then true else false else true) = (bey || decide (uN cut ≠ 0)) := by
    simp only [uN_eq0]
    by_cases h : uN cut = 0 <;> cases bey <;> simp [h]
  have ly : lossy (uN K0, decide (2 ^ 63 ≤ uN cut), bey || decide (uN cut % 2 ^ 63 ≠ 0)) = (bey || decide (uN cut ≠ 0)) := by
    unfold lossy
    cases bey
    · simp
      grind
    · simp
  have g13 : ∀ b, gZ (sZ (sJ σ 12 o K0) 13 o b) 13 o = b := fun b => by simp [gZ_sZ]
  have g12 : ∀ b, gJ (sZ (sJ σ 12 o K0) 13 o b) 12 o = K0 := fun b => by simp [gJ_sZ, gJ_sJ]
  unfold rtail
  simp only [t5, g13]
  rw [ly]
  by_cases hl : (bey || decide (uN cut ≠ 0)) = true
  · have hr := roundsUp_eq (sZ (sJ σ 12 o K0) 13 o (bey || decide (uN cut ≠ 0))) o cut bey way m hw hl
    rw [g12] at hr
    simp only [hl, if_true] at hr ⊢
    rw [hr]
    by_cases hu : upS way m (uN K0, decide (2 ^ 63 ≤ uN cut), bey || decide (uN cut % 2 ^ 63 ≠ 0)) = true
    · simp only [hu, if_true]
      refine ⟨K0 + 1, ?_, ?_⟩
      · apply St_ext <;> intro k y <;> simp only [gI_sI, gI_sJ, gI_sZ, gJ_sI, gJ_sJ, gJ_sZ, gZ_sI, gZ_sJ, gZ_sZ] <;> grind
      · unfold rnd
        rw [hu, uN_add]
        rfl
    · have hu' : upS way m (uN K0, decide (2 ^ 63 ≤ uN cut), bey || decide (uN cut % 2 ^ 63 ≠ 0)) = false := by simpa using hu
      simp only [hu', Bool.false_eq_true, if_false]
      refine ⟨K0, rfl, ?_⟩
      unfold rnd
      rw [hu']
      exact (Nat.mod_eq_of_lt hK).symm
  · have hl' : (bey || decide (uN cut ≠ 0)) = false := by simpa using hl
    simp only [hl', Bool.false_eq_true, if_false]
    refine ⟨K0, rfl, ?_⟩
    have hu' : upS way m (uN K0, decide (2 ^ 63 ≤ uN cut), bey || decide (uN cut % 2 ^ 63 ≠ 0)) = false := by
      rw [hl'] at ly
      unfold upS
      rw [ly]
      unfold lossy at ly
      simp at ly
      simp [ly]
      intro _ _
      omega
    unfold rnd
    rw [hu']
    exact (Nat.mod_eq_of_lt hK).symm
theorem tb_ge {n k : Nat} (h : n < 2 ^ (k + 1)) : n.testBit k = decide (2 ^ k ≤ n) := by
  rw [Nat.testBit_eq_decide_div_mod_eq]
  by_cases hc : 2 ^ k ≤ n
  · have : n / 2 ^ k = 1 := by
      apply Nat.div_eq_of_lt_le
      · omega
      · rw [Nat.pow_succ] at h
        omega
    simp [this, hc]
  · have : n / 2 ^ k = 0 := Nat.div_eq_of_lt (by omega)
    simp [this, hc]
theorem tb_mod (n k d : Nat) (h : k < d) : (n % 2 ^ d).testBit k = n.testBit k := by
  rw [Nat.testBit_mod_two_pow]
  simp [h]
/-- 128 bits cut at a place d of their upper half -/
theorem cut128 {h l d : Nat} (hl : l < 2 ^ 64) (hd : 1 ≤ d) (hd2 : d ≤ 64) (s : Bool) :
    (h * 2 ^ 64 + l) / 2 ^ (64 + d) = h / 2 ^ d ∧ hb (h * 2 ^ 64 + l) (64 + d) = decide (2 ^ 63 ≤ h % 2 ^ d * 2 ^ (64 - d)) ∧ rsb (h * 2 ^ 64 + l) (64 + d) s = ((s || decide (l ≠ 0)) || decide (h % 2 ^ d * 2 ^ (64 - d) % 2 ^ 63 ≠ 0)) := by
  have q1 : (h * 2 ^ 64 + l) / 2 ^ 64 = h := by omega
  have q2 : (h * 2 ^ 64 + l) % 2 ^ 64 = l := by omega
  refine ⟨?_, ?_, ?_⟩
  · rw [Nat.pow_add, ← Nat.div_div_eq_div_mul, q1]
  · unfold hb
    have e1 : 64 + d - 1 = (d - 1) + 64 := by omega
    have e2 : 0 < 64 + d := by omega
    have e3 : (h * 2 ^ 64 + l).testBit (d - 1 + 64) = h.testBit (d - 1) := by
      rw [← Nat.testBit_div_two_pow, q1]
    have e4 : (h % 2 ^ d).testBit (d - 1) = decide (2 ^ (d - 1) ≤ h % 2 ^ d) := by
      apply tb_ge
      have : d - 1 + 1 = d := by omega
      rw [this]
      exact Nat.mod_lt _ (pow_pos2 d)
    rw [tb_mod _ _ _ (by omega)] at e4
    rw [e1, e3, e4]
    have e5 : (2 : Nat) ^ 63 = 2 ^ (d - 1) * 2 ^ (64 - d) := by rw [← Nat.pow_add]; congr 1; omega
    have e6 : (2 ^ (d - 1) * 2 ^ (64 - d) ≤ h % 2 ^ d * 2 ^ (64 - d)) ↔ 2 ^ (d - 1) ≤ h % 2 ^ d := Nat.mul_le_mul_right_iff (pow_pos2 _)
    rw [e5]
    simp only [e2, e6]
    simp
  · unfold rsb
    have e1 : 64 + d - 1 = 64 + (d - 1) := by omega
    rw [e1, Nat.pow_add, Nat.mod_mul, q1, q2]
    have e5 : (2 : Nat) ^ 63 = 2 ^ (d - 1) * 2 ^ (64 - d) := by rw [← Nat.pow_add]; congr 1; omega
    have e7 : h % 2 ^ d * 2 ^ (64 - d) % 2 ^ 63 = h % 2 ^ (d - 1) * 2 ^ (64 - d) := by
      rw [e5, Nat.mul_mod_mul_right]
      congr 1
      have : 2 ^ (d - 1) ∣ 2 ^ d := Nat.pow_dvd_pow 2 (by omega)
      exact Nat.mod_mod_of_dvd h this
    rw [e7]
    have p1 := pow_pos2 (64 - d)
    by_cases c1 : l = 0
    · by_cases c2 : h % 2 ^ (d - 1) = 0
      · simp [c1, c2]
      · have : ¬ h % 2 ^ (d - 1) * 2 ^ (64 - d) = 0 := fun q => by
          rcases Nat.mul_eq_zero.mp q with q | q
          · exact c2 q
          · omega
        have a1 : l + 2 ^ 64 * (h % 2 ^ (d - 1)) ≠ 0 := by omega
        rw [decide_eq_true a1, decide_eq_true this]
        simp
    · simp [c1]
theorem rhead_eq (σ : St) (o : Nat) (pl : Nat) (hpl : 64 ≤ pl) (hp2 : pl < 2 ^ 30) (hn : 2 ^ 63 ≤ uN (gJ σ 8 o)) :
    ∃ (bey : Bool) (cut K0 : Int64), rhead σ o (nI pl) = (bey, cut, sJ σ 12 o K0) ∧ uN K0 = (uN (gJ σ 8 o) * 2 ^ 64 + uN (gJ σ 9 o)) / 2 ^ pl ∧ decide (2 ^ 63 ≤ uN cut) = hb (uN (gJ σ 8 o) * 2 ^ 64 + uN (gJ σ 9 o)) pl ∧ (bey || decide (uN cut % 2 ^ 63 ≠ 0)) = rsb (uN (gJ σ 8 o) * 2 ^ 64 + uN (gJ σ 9 o)) pl (gZ σ 10 o) := by
  have hl := uN_lt (gJ σ 9 o)
  have hh := uN_lt (gJ σ 8 o)
  have g9 : ∀ v, gJ (sJ σ 12 o v) 9 o = gJ σ 9 o := fun v => by simp [gJ_sJ]
  have g8 : ∀ v, gJ (sJ σ 12 o v) 8 o = gJ σ 8 o := fun v => by simp [gJ_sJ]
  by_cases c1 : pl = 64
  · subst c1
    refine ⟨gZ σ 10 o, gJ σ 9 o, gJ σ 8 o, ?_, ?_, ?_, ?_⟩
    · unfold rhead
      have : nI 64 ≤ 64 := by decide
      simp only [this, if_true]
    · omega
    · unfold hb
      have e1 : ((uN (gJ σ 8 o) * 2 ^ 64 + uN (gJ σ 9 o)) % 2 ^ 64).testBit 63 = (uN (gJ σ 8 o) * 2 ^ 64 + uN (gJ σ 9 o)).testBit 63 := tb_mod _ _ _ (by decide)
      have e2 : (uN (gJ σ 8 o) * 2 ^ 64 + uN (gJ σ 9 o)) % 2 ^ 64 = uN (gJ σ 9 o) := by omega
      rw [e2, tb_ge (k := 63) (by omega)] at e1
      show _ = (decide (0 < 64) && Nat.testBit _ 63)
      rw [← e1]
      simp
    · unfold rsb
      have e2 : (uN (gJ σ 8 o) * 2 ^ 64 + uN (gJ σ 9 o)) % 2 ^ (64 - 1) = uN (gJ σ 9 o) % 2 ^ 63 := by omega
      rw [e2]
  · have n64 : ¬ nI pl ≤ 64 := nI_ge (a := 64) (by omega) (by omega)
    have eb : (if gZ σ 10 o = true then true else if gJ σ 9 o = 0 then false else true) = (gZ σ 10 o || decide (uN (gJ σ 9 o) ≠ 0)) := by
      simp only [uN_eq0]
      cases gZ σ 10 o <;> by_cases h : uN (gJ σ 9 o) = 0 <;> simp [h]
    by_cases c2 : pl ≤ 128
    · obtain ⟨d, rfl⟩ : ∃ d, pl = 64 + d := ⟨pl - 64, by omega⟩
      obtain ⟨r1, r2, r3⟩ := cut128 (h := uN (gJ σ 8 o)) (d := d) hl (by omega) (by omega) (gZ σ 10 o)
      have n128 : ¬ 128 < nI (64 + d) := nI_nlt (b := 64 + d) (a := 128) (by omega) (by omega)
      have s128 : (128 : Int32) - nI (64 + d) = nI (64 - d) := by
        have := pk_sub (a := 128) (b := 64 + d) (by omega)
        rw [show 128 - (64 + d) = 64 - d by omega] at this
        exact this
      have s64 : nI (64 + d) - 64 = nI d := by
        have := pk_sub (a := 64 + d) (b := 64) (by omega)
        rw [show 64 + d - 64 = d by omega] at this
        exact this
      refine ⟨gZ σ 10 o || decide (uN (gJ σ 9 o) ≠ 0), jlshl (gJ σ 8 o) (nI (64 - d)), if 128 ≤ nI (64 + d) then 0 else jlushr (gJ σ 8 o) (nI d), ?_, ?_, ?_, ?_⟩
      · unfold rhead
        simp only [n64, if_false, g9, g8, eb, n128, s128, s64, sJ_sJ]
      · rw [r1]
        by_cases c3 : d = 64
        · subst c3
          have : (128 : Int32) ≤ nI (64 + 64) := by decide
          rw [if_pos this]
          exact (Nat.div_eq_of_lt hh).symm
        · have : ¬ (128 : Int32) ≤ nI (64 + d) := nI_ge (b := 128) (a := 64 + d) (by omega) (by omega)
          rw [if_neg this, uN_jlushr _ d rfl (by omega)]
      · have : uN (jlshl (gJ σ 8 o) (nI (64 - d))) = uN (gJ σ 8 o) % 2 ^ d * 2 ^ (64 - d) := by
          rw [uN_jlshl _ (64 - d) rfl (by omega)]
          have := mod_mul_pow (uN (gJ σ 8 o)) (64 - d) 64 (by omega)
          rw [show 64 - (64 - d) = d by omega] at this
          exact this
        rw [this, r2]
      · have : uN (jlshl (gJ σ 8 o) (nI (64 - d))) = uN (gJ σ 8 o) % 2 ^ d * 2 ^ (64 - d) := by
          rw [uN_jlshl _ (64 - d) rfl (by omega)]
          have := mod_mul_pow (uN (gJ σ 8 o)) (64 - d) 64 (by omega)
          rw [show 64 - (64 - d) = d by omega] at this
          exact this
        rw [this, r3]
    · have p128 : (128 : Int32) < nI pl := nI_lt (a := 128) (by omega) (by omega)
      have q128 : (128 : Int32) ≤ nI pl := nI_le (a := 128) (by omega) (by omega)
      have hN : uN (gJ σ 8 o) * 2 ^ 64 + uN (gJ σ 9 o) < 2 ^ (pl - 1) := by
        have : 2 ^ 128 ≤ 2 ^ (pl - 1) := Nat.pow_le_pow_right (by decide) (by omega)
        have e : (2 : Nat) ^ 128 = 340282366920938463463374607431768211456 := by decide
        omega
      have hN2 : uN (gJ σ 8 o) * 2 ^ 64 + uN (gJ σ 9 o) < 2 ^ pl := by
        have : 2 ^ (pl - 1) ≤ 2 ^ pl := Nat.pow_le_pow_right (by decide) (by omega)
        omega
      have e1 : uN (jlushr (gJ σ 8 o) 1) = uN (gJ σ 8 o) / 2 := by
        rw [uN_jlushr (gJ σ 8 o) (y := 1) 1 rfl (by decide)]
      refine ⟨gZ σ 10 o || decide (uN (gJ σ 9 o) ≠ 0), jlushr (gJ σ 8 o) 1, 0, ?_, ?_, ?_, ?_⟩
      · unfold rhead
        simp only [n64, if_false, g9, g8, eb, p128, q128, if_true, sJ_sJ]
      · rw [Nat.div_eq_of_lt hN2]
        rfl
      · unfold hb
        rw [Nat.testBit_lt_two_pow hN, e1]
        simp
        omega
      · unfold rsb
        rw [Nat.mod_eq_of_lt hN, e1]
        have c1 : uN (gJ σ 8 o) / 2 % 2 ^ 63 ≠ 0 := by omega
        have c2 : uN (gJ σ 8 o) * 2 ^ 64 + uN (gJ σ 9 o) ≠ 0 := by omega
        rw [decide_eq_true c1, decide_eq_true c2]
        simp
theorem round_spec (σ : St) (o : Nat) (pl way : Nat) (m : Bool) (hpl : 64 ≤ pl) (hp2 : pl < 2 ^ 30) (hn : 2 ^ 63 ≤ uN (gJ σ 8 o)) (hw : way ≤ 4) (x : Nat × Bool × Bool) (hx : x = ((uN (gJ σ 8 o) * 2 ^ 64 + uN (gJ σ 9 o)) / 2 ^ pl, hb (uN (gJ σ 8 o) * 2 ^ 64 + uN (gJ σ 9 o)) pl, rsb (uN (gJ σ 8 o) * 2 ^ 64 + uN (gJ σ 9 o)) pl (gZ σ 10 o))) :
    ∃ K : Int64, f_Size_round σ o (nI pl) (nI way) m = sZ (sJ σ 12 o K) 13 o (lossy x) ∧ uN K = rnd way m x % 2 ^ 64 := by
  obtain ⟨bey, cut, K0, e1, e2, e3, e4⟩ := rhead_eq σ o pl hpl hp2 hn
  rw [round_eq, e1]
  subst hx
  exact rtail_eq σ o bey cut K0 way m hw _ e2 e3 e4
