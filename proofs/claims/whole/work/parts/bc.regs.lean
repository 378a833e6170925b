/-! codes with registers: each -/
theorem two_i {K : K6} {a : Ab} {τ : St} (ha : AOK K a) (hm : RM a τ) {i : Nat} (hi : i < 8) (g12 : gI τ 12 30 = nI i) : gI (f_M_want τ 0) 12 30 = nI i ∧ gI (f_M_want (f_M_want τ 0) (nI i)) 12 30 = nI i ∧ gI (f_M_want (f_M_want τ 0) (nI i)) 10 30 = gI τ 10 30 := by
  have e2 : f_M_want τ 0 = f_M_want τ (nI 0) := rfl
  have a1 : AOK K (nowA a (lackN a 0)) := AOK_now ha (lackN_lt a 0)
  have w1 := (want_O hm ha (k := 0) (by decide)).1
  have s1 := same3_want hm ha (k := 0) (by decide)
  rw [e2]
  have s2 := same3_want w1 a1 hi
  exact ⟨s1.2.2.trans g12, (s2.2.2.trans s1.2.2).trans g12, s2.1.trans s1.1⟩
theorem bin_J {K : K6} {a : Ab} {σ τ : St} {o r i k n x : Nat} (ha : AOK K a) (hc : RC a σ) (hm : RM a τ) (ov : OV a τ) (hi : i < 8) (hr : ((r = 0 ∨ r = 1 ∨ r = 4 ∨ r = 5 ∨ r = 6 ∨ r = 7) ∧ x = n) ∨ (r = 2 ∧ n = 0 ∧ x = 0) ∨ (r = 3 ∧ (n = 1 ∨ n = 2) ∧ x = n - 1)) (hn : n < 8) (g10 : gI τ 10 30 = nI o) (g11 : gI τ 11 30 = nI r) (g12 : gI τ 12 30 = nI i) (ho : o = 0 ∨ o = 4 ∨ o = 6) (hk : k = if o = 0 then 0 else i) (hx : x = if o = 6 then 1 else 0) : Jx K (f_PS_combine (f_PS_need (f_PS_need σ 0 12) (nI i) 13) (nI r) (nI k) (nI n)) (f_M_inRegisters τ) := by
  have j := binary_J ha hc hm ov hi hr hn g10 g11 g12 ho hk hx
  obtain ⟨w1, w2, w3⟩ := two_i ha hm hi g12
  have n3 : ¬ nI o = 3 ∧ ¬ nI o = 5 ∧ ¬ nI o = 1 := by rcases ho with rfl | rfl | rfl <;> decide
  obtain ⟨b, b1, b2, b3, b4, b5, b6, b7⟩ := two_J ha hc hm ov hi
  obtain ⟨t1, t2, t3, t4⟩ := takeX_M b3 b1 hi
  have t6 := same3_X t1
  have x10 : gI (f_M_takeX (f_M_want (f_M_want τ 0) (nI i)) (nI i)) 10 30 = nI o := (t6.1.trans w3).trans g10
  have x12 : gI (f_M_takeX (f_M_want (f_M_want τ 0) (nI i)) (nI i)) 12 30 = nI i := t6.2.2.trans w2
  have kk : (if nI o = 0 then (0 : Int32) else nI i) = nI k := by
    rw [hk]
    rcases ho with rfl | rfl | rfl
    · rw [if_pos (show nI 0 = 0 by decide), if_pos rfl]
      rfl
    · rw [if_neg (show ¬ nI 4 = 0 by decide), if_neg (by decide)]
    · rw [if_neg (show ¬ nI 6 = 0 by decide), if_neg (by decide)]
  unfold f_M_inRegisters
  try dsimp only
  rw [g10, if_neg n3.1, if_neg n3.2.1, if_neg n3.2.2]
  try dsimp only
  rw [w1, w2, x10, x12, kk]
  exact j
theorem reg0_J {K : K6} {a : Ab} {σ τ : St} {r i : Nat} (ha : AOK K a) (hc : RC a σ) (hm : RM a τ) (ov : OV a τ) (hr : r < 8) (hi : i < 8) (g10 : gI τ 10 30 = nI 0) (g11 : gI τ 11 30 = nI r) (g12 : gI τ 12 30 = nI i) : Jx K (f_PS_doWithRegisters σ (nI 0) (nI r) (nI i)) (f_M_inRegisters τ) := by
  have e3 : (nI r = 3) ↔ r = 3 := nI_eq (b := 3) (by omega) (by decide)
  have eb : bI (if nI r = 3 then true else false) = nI (if r = 3 then 1 else 0) := by
    by_cases z : r = 3
    · rw [if_pos (e3.mpr z), if_pos z]
      rfl
    · rw [if_neg (fun q => z (e3.mp q)), if_neg z]
      rfl
  unfold f_PS_doWithRegisters
  try dsimp only
  rw [if_pos (show nI 0 = 0 by decide), eb]
  have j := bin_J (o := 0) (k := 0) (n := if r = 3 then 1 else 0) (x := 0) ha hc hm ov hi (by
    by_cases z : r = 3
    · rw [if_pos z]
      exact Or.inr (Or.inr ⟨z, Or.inl rfl, rfl⟩)
    · rw [if_neg z]
      by_cases z2 : r = 2
      · exact Or.inr (Or.inl ⟨z2, rfl, rfl⟩)
      · exact Or.inl ⟨by omega, rfl⟩) (by split <;> decide) g10 g11 g12 (Or.inl rfl) rfl rfl
  exact j
theorem reg4_J {K : K6} {a : Ab} {σ τ : St} {r i : Nat} (ha : AOK K a) (hc : RC a σ) (hm : RM a τ) (ov : OV a τ) (hr : r = 0 ∨ r = 1 ∨ r = 4 ∨ r = 5 ∨ r = 6 ∨ r = 7) (hi : i < 8) (g10 : gI τ 10 30 = nI 4) (g11 : gI τ 11 30 = nI r) (g12 : gI τ 12 30 = nI i) : Jx K (f_PS_doWithRegisters σ (nI 4) (nI r) (nI i)) (f_M_inRegisters τ) := by
  unfold f_PS_doWithRegisters
  try dsimp only
  rw [if_neg (show ¬ nI 4 = 0 by decide), if_neg (show ¬ nI 4 = 1 by decide), if_neg (show ¬ nI 4 = 2 by decide), if_neg (show ¬ nI 4 = 3 by decide), if_pos (show nI 4 = 4 by decide)]
  exact bin_J (o := 4) (k := i) (n := 0) (x := 0) ha hc hm ov hi (Or.inl ⟨hr, rfl⟩) (by decide) g10 g11 g12 (Or.inr (Or.inl rfl)) rfl rfl
theorem reg6_J {K : K6} {a : Ab} {σ τ : St} {r i : Nat} (ha : AOK K a) (hc : RC a σ) (hm : RM a τ) (ov : OV a τ) (hr : (r = 0 ∨ r = 1 ∨ r = 4 ∨ r = 5 ∨ r = 6 ∨ r = 7) ∨ r = 3) (hi : i < 8) (g10 : gI τ 10 30 = nI 6) (g11 : gI τ 11 30 = nI r) (g12 : gI τ 12 30 = nI i) : Jx K (f_PS_doWithRegisters σ (nI 6) (nI r) (nI i)) (f_M_inRegisters τ) := by
  have e3 : (nI r = 3) ↔ r = 3 := nI_eq (b := 3) (by omega) (by decide)
  have eb : (if nI r = 3 then (2 : Int32) else 1) = nI (if r = 3 then 2 else 1) := by
    by_cases z : r = 3
    · rw [if_pos (e3.mpr z), if_pos z]
      rfl
    · rw [if_neg (fun q => z (e3.mp q)), if_neg z]
      rfl
  unfold f_PS_doWithRegisters
  try dsimp only
  rw [if_neg (show ¬ nI 6 = 0 by decide), if_neg (show ¬ nI 6 = 1 by decide), if_neg (show ¬ nI 6 = 2 by decide), if_neg (show ¬ nI 6 = 3 by decide), if_neg (show ¬ nI 6 = 4 by decide), if_neg (show ¬ nI 6 = 5 by decide), if_pos (show nI 6 = 6 by decide), eb]
  exact bin_J (o := 6) (k := i) (n := if r = 3 then 2 else 1) (x := 1) ha hc hm ov hi (by
    by_cases z : r = 3
    · rw [if_pos z]
      exact Or.inr (Or.inr ⟨z, Or.inr rfl, rfl⟩)
    · rw [if_neg z]
      exact Or.inl ⟨by omega, rfl⟩) (by split <;> decide) g10 g11 g12 (Or.inr (Or.inr rfl)) rfl rfl
theorem reg5_J {K : K6} {a : Ab} {σ τ : St} {r i : Nat} (ha : AOK K a) (hc : RC a σ) (hm : RM a τ) (ov : OV a τ) (hr : r = 0 ∨ r = 2 ∨ r = 3) (hi : i < 8) (g10 : gI τ 10 30 = nI 5) (g11 : gI τ 11 30 = nI r) (g12 : gI τ 12 30 = nI i) : Jx K (f_PS_doWithRegisters σ (nI 5) (nI r) (nI i)) (f_M_inRegisters τ) := by
  unfold f_PS_doWithRegisters f_M_inRegisters
  try dsimp only
  rw [g10]
  try dsimp only
  rw [if_neg (show ¬ nI 5 = 0 by decide), if_neg (show ¬ nI 5 = 1 by decide), if_neg (show ¬ nI 5 = 2 by decide), if_neg (show ¬ nI 5 = 3 by decide), if_neg (show ¬ nI 5 = 4 by decide), if_pos (show nI 5 = 5 by decide), if_neg (show ¬ nI 5 = 3 by decide), if_pos (show nI 5 = 5 by decide)]
  exact move_J ha hc hm ov hr hi g11 g12
def ownV (r i : Nat) : Prop := r = 0 ∨ r = 1 ∨ (r = 2 ∧ i = 0) ∨ (r = 4 ∧ (i = 0 ∨ i = 1 ∨ i = 4 ∨ i = 5)) ∨ (r = 5 ∧ i < 7) ∨ (r = 6 ∧ (i = 4 ∨ i = 6 ∨ i = 7)) ∨ (r = 7 ∧ (i = 0 ∨ i = 2 ∨ i = 4 ∨ i = 5))
theorem turn_J {K : K6} {a : Ab} {σ τ : St} {k : Nat} (ha : AOK K a) (hc : RC a σ) (hm : RM a τ) (hk : k < 8) : Jx K (sI σ 0 0 (f_PS_place σ (nI k))) (sI τ 1 30 (jrem (gI τ 1 30 + nI k) 8)) := by
  have t := ha.top
  have e : jrem (gI τ 1 30 + nI k) 8 = nI (plN a k) := by
    rw [hm.top, nI_add]
    exact pk_rem (d := 8) (by omega) (by decide) (by decide)
  rw [place_C hc ha hk, e]
  exact ⟨_, AOK_top ha k, top_RC hc _, top_RM hm _⟩
theorem reg1_J {K : K6} {a : Ab} {σ τ : St} {r i : Nat} (ha : AOK K a) (hc : RC a σ) (hm : RM a τ) (ov : OV a τ) (h0 : a.now = 0) (hv : ownV r i) (hi : i < 8) (g10 : gI τ 10 30 = nI 1) (g11 : gI τ 11 30 = nI r) (g12 : gI τ 12 30 = nI i) : Jx K (f_PS_doOwn σ (nI r) (nI i)) (f_M_inRegisters τ) := by
  have e1 : f_M_inRegisters τ = f_M_alone τ := by
    unfold f_M_inRegisters
    try dsimp only
    rw [g10, if_neg (show ¬ nI 1 = 3 by decide), if_neg (show ¬ nI 1 = 5 by decide), if_pos (show nI 1 = 1 by decide)]
  rw [e1]
  unfold f_PS_doOwn f_M_alone
  try dsimp only
  rw [g11]
  try dsimp only
  rcases hv with rfl | rfl | ⟨rfl, rfl⟩ | ⟨rfl, hi4⟩ | ⟨rfl, hi5⟩ | ⟨rfl, hi6⟩ | ⟨rfl, hi7⟩
  · rw [if_pos (show nI 0 = 0 by decide), if_pos (show nI 0 = 0 by decide), g12]
    have j := loadST_J ha hc hm ov h0 hi
    have w1 := (want_O hm ha hi).1
    have s1 := same3_want hm ha hi
    have a1 : AOK K (nowA a (lackN a i)) := AOK_now ha (lackN_lt a i)
    have x12 : gI (f_M_isFull (f_M_want τ (nI i))).2 12 30 = nI i := by
      rw [isFull_M w1 a1]
      try dsimp only
      split
      · exact s1.2.2.trans g12
      · rw [((say1_M w1 a1 (OV_want hm ha ov hi)).2.2 12 30 (by decide)).1]
        exact s1.2.2.trans g12
    rw [x12]
    exact j
  · rw [if_neg (show ¬ nI 1 = 0 by decide), if_pos (show nI 1 = 1 by decide), if_neg (show ¬ nI 1 = 0 by decide), if_pos (show nI 1 = 1 by decide)]
    exact exchange_J ha hc hm ov hi g12
  · rw [if_neg (show ¬ nI 2 = 0 by decide), if_neg (show ¬ nI 2 = 1 by decide), if_pos (show nI 2 = 2 by decide), if_neg (show ¬ nI 2 = 0 by decide), if_neg (show ¬ nI 2 = 1 by decide), if_neg (show ¬ nI 2 = 4 by decide), if_neg (show ¬ nI 2 = 5 by decide), if_neg (show ¬ nI 2 = 6 by decide), if_neg (show ¬ nI 2 = 7 by decide)]
    exact ⟨a, ha, hc, hm⟩
  · rw [if_neg (show ¬ nI 4 = 0 by decide), if_neg (show ¬ nI 4 = 1 by decide), if_neg (show ¬ nI 4 = 2 by decide), if_neg (show ¬ nI 4 = 3 by decide), if_pos (show nI 4 = 4 by decide), if_neg (show ¬ nI 4 = 0 by decide), if_neg (show ¬ nI 4 = 1 by decide), if_pos (show nI 4 = 4 by decide)]
    exact first_J ha hc hm ov hi4 g12
  · rw [if_neg (show ¬ nI 5 = 0 by decide), if_neg (show ¬ nI 5 = 1 by decide), if_neg (show ¬ nI 5 = 2 by decide), if_neg (show ¬ nI 5 = 3 by decide), if_neg (show ¬ nI 5 = 4 by decide), if_pos (show nI 5 = 5 by decide), if_neg (show ¬ nI 5 = 0 by decide), if_neg (show ¬ nI 5 = 1 by decide), if_neg (show ¬ nI 5 = 4 by decide), if_pos (show nI 5 = 5 by decide)]
    exact const_J ha hc hm ov hi5 g12
  · rw [if_neg (show ¬ nI 6 = 0 by decide), if_neg (show ¬ nI 6 = 1 by decide), if_neg (show ¬ nI 6 = 2 by decide), if_neg (show ¬ nI 6 = 3 by decide), if_neg (show ¬ nI 6 = 4 by decide), if_neg (show ¬ nI 6 = 5 by decide), if_pos (show nI 6 = 6 by decide), if_neg (show ¬ nI 6 = 0 by decide), if_neg (show ¬ nI 6 = 1 by decide), if_neg (show ¬ nI 6 = 4 by decide), if_neg (show ¬ nI 6 = 5 by decide), if_pos (show nI 6 = 6 by decide), g12]
    rcases hi6 with rfl | rfl | rfl
    · rw [if_pos (show nI 4 = 4 by decide), if_neg (show ¬ nI 4 = 6 by decide), if_neg (show ¬ nI 4 = 7 by decide)]
      exact split_J ha hc hm ov h0
    · rw [if_neg (show ¬ nI 6 = 4 by decide), if_pos (show nI 6 = 6 by decide), if_pos (show nI 6 = 6 by decide)]
      exact turn_J (k := 7) ha hc hm (by decide)
    · rw [if_neg (show ¬ nI 7 = 4 by decide), if_neg (show ¬ nI 7 = 6 by decide), if_neg (show ¬ nI 7 = 6 by decide), if_pos (show nI 7 = 7 by decide)]
      exact turn_J (k := 1) ha hc hm (by decide)
  · rw [if_neg (show ¬ nI 7 = 0 by decide), if_neg (show ¬ nI 7 = 1 by decide), if_neg (show ¬ nI 7 = 2 by decide), if_neg (show ¬ nI 7 = 3 by decide), if_neg (show ¬ nI 7 = 4 by decide), if_neg (show ¬ nI 7 = 5 by decide), if_neg (show ¬ nI 7 = 6 by decide), if_pos (show nI 7 = 7 by decide), if_neg (show ¬ nI 7 = 0 by decide), if_neg (show ¬ nI 7 = 1 by decide), if_neg (show ¬ nI 7 = 4 by decide), if_neg (show ¬ nI 7 = 5 by decide), if_neg (show ¬ nI 7 = 6 by decide), if_pos (show nI 7 = 7 by decide)]
    exact step_J ha hc hm ov hi7 g12
/-! the control -/
theorem ctl0 {w : Nat} (hw : w < 65536) : nI w &&& (-129) = nI (w - w / 128 % 2 * 128) := by
  have e : (-129 : Int32) = nI (4294967167) := by decide
  rw [e, nI_and _ _ (by omega) (by decide)]
  congr 1
  apply Nat.eq_of_testBit_eq
  intro i
  rw [Nat.testBit_and]
  have s : w = (w / 256) * 2 ^ 8 + (w / 128 % 2) * 128 + w % 128 := by omega
  have r : w - w / 128 % 2 * 128 = 2 ^ 8 * (w / 256) + w % 128 := by omega
  rw [r, Nat.testBit_two_pow_mul_add _ (show w % 128 < 2 ^ 8 by omega)]
  have m : (4294967167 : Nat).testBit i = (decide (i < 32) && !decide (i = 7)) := by
    by_cases q : i < 32
    · have : ∀ j, j < 32 → (4294967167 : Nat).testBit j = (decide (j < 32) && !decide (j = 7)) := by decide
      exact this i q
    · rw [Nat.testBit_lt_two_pow (Nat.lt_of_lt_of_le (show 4294967167 < 2 ^ 32 by decide) (Nat.pow_le_pow_right (by decide) (by omega))), decide_eq_false q]
      rfl
  rw [m]
  by_cases c : i < 8
  · rw [if_pos c, show w % 128 = w % 2 ^ 7 from rfl, Nat.testBit_mod_two_pow]
    by_cases c7 : i = 7
    · subst c7
      simp
    · have c6 : i < 7 := by omega
      have c32 : i < 32 := by omega
      simp [c7, c6, c32]
  · rw [if_neg c]
    have d : (w / 256).testBit (i - 8) = w.testBit i := by
      rw [show w / 256 = w / 2 ^ 8 from rfl, Nat.testBit_div_two_pow]
      congr 1
      omega
    rw [d]
    by_cases q : i < 32
    · have c7 : ¬ i = 7 := by omega
      simp [q, c7]
    · rw [Nat.testBit_lt_two_pow (Nat.lt_of_lt_of_le hw (Nat.pow_le_pow_right (n := 2) (i := 16) (by decide) (by omega)))]
      rfl
theorem ctl1 {w : Nat} (hw : w < 65536) : nI w ||| 128 = nI (w - w / 128 % 2 * 128 + 128) := by
  have e : (128 : Int32) = nI 128 := rfl
  rw [e, nI_or _ _ (by omega) (by decide)]
  congr 1
  have s : w - w / 128 % 2 * 128 + 128 = 2 ^ 8 * (w / 256) + (128 + w % 128) := by omega
  apply Nat.eq_of_testBit_eq
  intro i
  have t : w.testBit i = (if i < 8 then (w % 256).testBit i else (w / 256).testBit (i - 8)) := by
    have := Nat.testBit_two_pow_mul_add (w / 256) (show w % 256 < 2 ^ 8 by omega) i
    rw [show 2 ^ 8 * (w / 256) + w % 256 = w by omega] at this
    exact this
  rw [s, Nat.testBit_two_pow_mul_add _ (show 128 + w % 128 < 2 ^ 8 by omega), Nat.testBit_or, t]
  by_cases c : i < 8
  · rw [if_pos c, if_pos c]
    have u : (128 + w % 128).testBit i = ((128 : Nat).testBit i || (w % 128).testBit i) := by
      have := or_add (a := 1) (b := w % 128) (k := 7) (by omega)
      rw [Nat.one_mul] at this
      have e128 : (2 : Nat) ^ 7 = 128 := rfl
      rw [e128] at this
      rw [← this, Nat.testBit_or]
    rw [u, show w % 256 = w % 2 ^ 8 from rfl, show w % 128 = w % 2 ^ 7 from rfl, Nat.testBit_mod_two_pow, Nat.testBit_mod_two_pow]
    by_cases c7 : i = 7
    · subst c7
      have : (128 : Nat).testBit 7 = true := by decide
      simp [this]
    · have c6 : i < 7 := by omega
      simp [c, c6]
      rw [Bool.or_comm]
  · rw [if_neg c, if_neg c, Nat.testBit_lt_two_pow (Nat.lt_of_lt_of_le (show 128 < 2 ^ 8 by decide) (Nat.pow_le_pow_right (by decide) (by omega))), Bool.or_false]
theorem reg3_J {a : Ab} {σ τ : St} {i : Nat} (ha : AOK (kp6 a) a) (hc : RC a σ) (hm : RM a τ) (hk : a.lc = a.kc ∧ a.lp = a.kp ∧ a.lo = a.ko) (hi : i < 4) (g10 : gI τ 10 30 = nI 3) (g12 : gI τ 12 30 = nI i) : Rest (f_PS_doWithRegisters σ (nI 3) (nI 4) (nI i)) (f_M_inRegisters τ) := by
  have w := ha.w
  have r1 : jrem (nI a.w / 128) 2 = nI (a.w / 128 % 2) := rem_M w 128 2 (by decide) (by decide) (by decide) (by decide)
  have r2 : nI (a.w / 128 % 2) * 128 = nI (a.w / 128 % 2 * 128) := pk_mul _ 128
  have r3 : nI a.w - nI (a.w / 128 % 2 * 128) = nI (a.w - a.w / 128 % 2 * 128) := pk_sub (by omega)
  unfold f_PS_doWithRegisters f_M_inRegisters f_PS_doWithControl f_M_inRegisters_b23
  try dsimp only
  rw [g10, g12, hm.w, r1, r2, r3, hc.w]
  try dsimp only
  rw [if_neg (show ¬ nI 3 = 0 by decide), if_neg (show ¬ nI 3 = 1 by decide), if_neg (show ¬ nI 3 = 2 by decide), if_pos (show nI 3 = 3 by decide), if_pos (show nI 3 = 3 by decide)]
  rcases (show i = 0 ∨ i = 1 ∨ i = 2 ∨ i = 3 by omega) with rfl | rfl | rfl | rfl
  · have e : nI (a.w - a.w / 128 % 2 * 128) + 128 * nI 0 = nI (a.w - a.w / 128 % 2 * 128) := by
      have : (128 : Int32) * nI 0 = nI 0 := by decide
      rw [this, nI_add, Nat.add_zero]
    have g : gI (sI τ 2 30 (nI (a.w - a.w / 128 % 2 * 128))) 12 30 = nI 0 := by rw [eq_gI (by decide)]; exact g12
    rw [if_pos (show nI 0 = 0 by decide), if_pos (show nI 0 = 0 by decide), e, g, if_neg (show ¬ nI 0 = 2 by decide), g, if_neg (show ¬ nI 0 = 3 by decide)]
    exact ⟨(Ab.mk17 a.m a.r a.e a.top (a.w - a.w / 128 % 2 * 128) a.told a.c0 a.c1 a.c2 a.c3 a.kc a.kp a.ko a.lc a.lp a.lo a.now), (AOK_mk ha.m ha.r ha.top (by show a.w - a.w / 128 % 2 * 128 < 65536; omega) ha.told ha.kc ha.kp ha.ko ha.lc ha.lp ha.lo ha.now ha.kk), w_RC hc (ctl0 w), w_RM hm rfl, hk⟩
  · have e : nI (a.w - a.w / 128 % 2 * 128) + 128 * nI 1 = nI (a.w - a.w / 128 % 2 * 128 + 128) := by
      have : (128 : Int32) * nI 1 = nI 128 := by decide
      rw [this, nI_add]
    have g : gI (sI τ 2 30 (nI (a.w - a.w / 128 % 2 * 128 + 128))) 12 30 = nI 1 := by rw [eq_gI (by decide)]; exact g12
    rw [if_neg (show ¬ nI 1 = 0 by decide), if_pos (show nI 1 = 1 by decide), if_neg (show ¬ nI 1 = 0 by decide), if_pos (show nI 1 = 1 by decide), e, g, if_neg (show ¬ nI 1 = 2 by decide), g, if_neg (show ¬ nI 1 = 3 by decide)]
    exact ⟨(Ab.mk17 a.m a.r a.e a.top (a.w - a.w / 128 % 2 * 128 + 128) a.told a.c0 a.c1 a.c2 a.c3 a.kc a.kp a.ko a.lc a.lp a.lo a.now), (AOK_mk ha.m ha.r ha.top (by show a.w - a.w / 128 % 2 * 128 + 128 < 65536; omega) ha.told ha.kc ha.kp ha.ko ha.lc ha.lp ha.lo ha.now ha.kk), w_RC hc (ctl1 w), w_RM hm rfl, hk⟩
  · have g : gI (sI τ 3 30 0) 12 30 = nI 2 := by rw [eq_gI (by decide)]; exact g12
    rw [if_neg (show ¬ nI 2 = 0 by decide), if_neg (show ¬ nI 2 = 1 by decide), if_pos (show nI 2 = 2 by decide), if_neg (show ¬ nI 2 = 0 by decide), if_neg (show ¬ nI 2 = 1 by decide), g12, if_pos (show nI 2 = 2 by decide), g, if_neg (show ¬ nI 2 = 3 by decide)]
    exact ⟨(Ab.mk17 a.m a.r a.e a.top a.w (0) a.c0 a.c1 a.c2 a.c3 a.kc a.kp a.ko a.lc a.lp a.lo a.now), (AOK_mk ha.m ha.r ha.top ha.w (by show 0 < 64; decide) ha.kc ha.kp ha.ko ha.lc ha.lp ha.lo ha.now ha.kk), told_RC hc rfl, told_RM hm rfl, hk⟩
  · rw [if_neg (show ¬ nI 3 = 0 by decide), if_neg (show ¬ nI 3 = 1 by decide), if_neg (show ¬ nI 3 = 2 by decide), if_neg (show ¬ nI 3 = 0 by decide), if_neg (show ¬ nI 3 = 1 by decide), g12, if_neg (show ¬ nI 3 = 2 by decide), g12, if_pos (show nI 3 = 3 by decide)]
    exact ⟨_, AOK_beg ha, ini_C hc, beg_M hm, rfl, rfl, rfl⟩
