/-! the reference's row of bits -/
def rowN (r : Nat → Bool) : Nat → Nat
  | 0 => 0
  | n + 1 => rowN r n + (r n).toNat * 2 ^ n
theorem rowN_lt (r : Nat → Bool) : ∀ n, rowN r n < 2 ^ n := by
  intro n
  induction n with
  | zero => exact Nat.one_pos
  | succ n ih =>
    have e : (2 : Nat) ^ (n + 1) = 2 ^ n * 2 := Nat.pow_succ _ _
    have h : (r n).toNat * 2 ^ n ≤ 1 * 2 ^ n := Nat.mul_le_mul_right _ (Bool.toNat_le _)
    show rowN r n + (r n).toNat * 2 ^ n < 2 ^ (n + 1)
    omega
theorem rowN_tb (r : Nat → Bool) : ∀ n i, (rowN r n).testBit i = (decide (i < n) && r i) := by
  intro n
  induction n with
  | zero => intro i; simp [rowN]
  | succ n ih =>
    intro i
    have hl := rowN_lt r n
    show (rowN r n + (r n).toNat * 2 ^ n).testBit i = _
    rw [Nat.add_comm, ← or_add hl, Nat.testBit_or, ih, Nat.testBit_mul_two_pow]
    by_cases c1 : i < n
    · have c2 : ¬ n ≤ i := by omega
      have c3 : i < n + 1 := by omega
      simp [c1, c2, c3]
    · by_cases c2 : i = n
      · subst c2
        cases r i <;> simp
      · have c3 : ¬ i < n + 1 := by omega
        have c4 : n ≤ i := by omega
        have c5 : ((r n).toNat).testBit (i - n) = false := by
          apply Nat.testBit_lt_two_pow
          have : (2 : Nat) ^ 1 ≤ 2 ^ (i - n) := Nat.pow_le_pow_right (by decide) (by omega)
          have := Bool.toNat_le (r n)
          omega
        simp [c1, c3, c5]
theorem rowN_congr {r s : Nat → Bool} : ∀ n, (∀ i, i < n → r i = s i) → rowN r n = rowN s n := by
  intro n
  induction n with
  | zero => intro _; rfl
  | succ n ih =>
    intro h
    show rowN r n + (r n).toNat * 2 ^ n = rowN s n + (s n).toNat * 2 ^ n
    rw [ih (fun i hi => h i (by omega)), h n (by omega)]
def RowIs (τ : St) (n N : Nat) : Prop := gI τ 18 35 = nI n ∧ n ≤ 33000 ∧ rowN (gZ τ 109) n = N
theorem jat_nI {i : Nat} (h : i < 2 ^ 31) : jat (nI i) = i := nI_clamp h
/-- a bit at any place, also below 0 -/
def bitZ (N : Nat) (i : Int) : Bool := decide (0 ≤ i) && N.testBit i.toNat
theorem bit_M {τ : St} {n N : Nat} (h : RowIs τ n N) (a : Int32) : f_MO_bit τ a = bitZ N a.toInt := by
  obtain ⟨h1, h2, h3⟩ := h
  unfold f_MO_bit bitZ
  by_cases c1 : a < 0
  · have : a.toInt < 0 := by
      have := Int32.lt_iff_toInt_lt.mp c1
      have e : (0 : Int32).toInt = 0 := rfl
      omega
    have c2 : ¬ 0 ≤ a.toInt := by omega
    simp [c1, c2]
  · obtain ⟨j, hj, rfl⟩ := nI_of c1
    have e1 : (nI j).toInt = j := nI_toInt hj
    have e2 : (0 : Int) ≤ j := by omega
    rw [e1, ← h3, rowN_tb]
    have c3 : (gI τ 18 35 ≤ nI j) ↔ n ≤ j := by rw [h1]; exact nI_leI (by omega) hj
    simp only [c1, c3, if_false, jat_nI hj, e2, decide_true, Bool.true_and]
    have e3 : ((j : Int)).toNat = j := by omega
    rw [e3]
    by_cases c4 : n ≤ j
    · have : ¬ j < n := by omega
      simp [c4, this]
    · have : j < n := by omega
      simp [c4, this]
theorem highest_M {τ : St} {n N : Nat} (h : RowIs τ n N) : (N = 0 ∧ f_MO_highest τ = -1) ∨ (N ≠ 0 ∧ f_MO_highest τ = nI N.log2 ∧ N.log2 < n) := by
  obtain ⟨h1, h2, h3⟩ := h
  have hl := rowN_lt (gZ τ 109) n
  rw [h3] at hl
  have e1 : gI τ 18 35 - 1 = nI n + (-1) := by rw [h1, Int32.sub_eq_add_neg]
  have cl : ∀ i, i < n → gZ τ 109 i = N.testBit i := fun i hi => by
    rw [← h3, rowN_tb]
    simp [hi]
  unfold f_MO_highest
  simp only [e1]
  -- by what lies above the place that is looked at
  have main := lpn_M (b := b_MO_highest_7 τ) (fun t => ∃ d : Nat, d ≤ n ∧ t = nI d + (-1) ∧ N < 2 ^ d) (fun t => (t.toInt + 1).toNat) (fun t => (N = 0 ∧ t = -1) ∨ (N ≠ 0 ∧ t = nI N.log2 ∧ N.log2 < n)) ?_ (dnf (nI n + (-1))) (nI n + (-1)) ?_ ⟨n, Nat.le_refl _, rfl, hl⟩
  · exact main
  · intro t ⟨d, d1, d2, d3⟩
    cases d with
    | zero =>
      right
      have : t = -1 := by rw [d2]; rfl
      subst this
      refine ⟨-1, ?_, Or.inl ⟨?_, rfl⟩⟩
      · unfold b_MO_highest_7
        have : (-1 : Int32) < 0 := by decide
        simp only [this, if_true]
      · have : (2 : Nat) ^ 0 = 1 := rfl
        omega
    | succ d =>
      have e2 : t = nI d := by rw [d2]; exact pk_m1 d
      subst e2
      have c1 : ¬ nI d < 0 := nI_pos (by omega)
      by_cases c2 : N.testBit d = true
      · right
        refine ⟨nI d, ?_, Or.inr ?_⟩
        · unfold b_MO_highest_7
          have : gZ τ 109 (jat (nI d)) = true := by rw [jat_nI (by omega), cl d (by omega)]; exact c2
          simp only [c1, if_false, this, if_true]
        · have g : 2 ^ d ≤ N := Nat.ge_two_pow_of_testBit c2
          have lg : Lg N d := ⟨g, d3⟩
          have := Lg_log2 lg
          rw [this]
          have := pow_pos2 d
          exact ⟨by omega, rfl, by omega⟩
      · left
        refine ⟨nI d + (-1), ?_, ⟨d, by omega, rfl, ?_⟩, ?_⟩
        · unfold b_MO_highest_7
          have : ¬ gZ τ 109 (jat (nI d)) = true := by rw [jat_nI (by omega), cl d (by omega)]; exact c2
          simp only [c1, if_false, this, Bool.false_eq_true]
        · refine Classical.byContradiction (fun q => c2 ?_)
          rw [tb_ge (by omega)]
          simp
          omega
        · have e3 : (nI d).toInt = d := nI_toInt (by omega)
          have e4 : (-1 : Int32).toInt = -1 := by decide
          have e5 : (nI d + (-1)).toInt = d - 1 := by rw [i32_addT (by omega) (by omega), e3, e4]; omega
          simp only [e3, e5]
          omega
  · show ((nI n + (-1)).toInt + 1).toNat < dnf (nI n + (-1))
    unfold dnf
    omega
theorem mod_succ (N i : Nat) : N % 2 ^ (i + 1) = N % 2 ^ i + (N.testBit i).toNat * 2 ^ i := by
  have e : (2 : Nat) ^ (i + 1) = 2 ^ i * 2 := Nat.pow_succ _ _
  rw [e, Nat.mod_mul, ntb]
  have := Nat.mod_two_eq_zero_or_one (N / 2 ^ i)
  rcases this with q | q <;> rw [q] <;> simp
theorem rest_M {τ : St} {n N : Nat} (h : RowIs τ n N) (a : Int32) (ha : a.toInt < 100000) : f_MO_rest τ a = (gZ τ 20 35 || decide (N % 2 ^ a.toInt.toNat ≠ 0)) := by
  obtain ⟨h1, h2, h3⟩ := h
  have hl := rowN_lt (gZ τ 109) n
  rw [h3] at hl
  have cl : ∀ i, i < n → gZ τ 109 i = N.testBit i := fun i hi => by
    rw [← h3, rowN_tb]
    simp [hi]
  have e0 : (0 : Int32).toInt = 0 := rfl
  unfold f_MO_rest
  simp only []
  -- the place where it ends
  obtain ⟨m, hm⟩ : ∃ m : Nat, m = min a.toInt.toNat n := ⟨_, rfl⟩
  have hmm : N % 2 ^ m = N % 2 ^ a.toInt.toNat := by
    by_cases c : a.toInt.toNat ≤ n
    · have : m = a.toInt.toNat := by omega
      rw [this]
    · have e1 : m = n := by omega
      have e2 : N < 2 ^ a.toInt.toNat := Nat.lt_of_lt_of_le hl (Nat.pow_le_pow_right (by decide) (by omega))
      rw [e1, Nat.mod_eq_of_lt hl, Nat.mod_eq_of_lt e2]
  rw [← hmm]
  refine lpn_P (b := b_MO_rest_7 τ a) (fun i t => t.1 = nI i ∧ t.2 = (gZ τ 20 35 || decide (N % 2 ^ i ≠ 0))) (fun y => y.2 = (gZ τ 20 35 || decide (N % 2 ^ m ≠ 0))) m ?_ ?_ ?_ ?_
  · intro i t hi ⟨t1, t2⟩
    obtain ⟨u1, u2⟩ := t
    simp only at t1 t2
    subst t1
    have e1 : (nI i).toInt = i := nI_toInt (by omega)
    have c1 : ¬ a ≤ nI i := fun q => by
      have := Int32.le_iff_toInt_le.mp q
      omega
    have c2 : ¬ gI τ 18 35 ≤ nI i := by rw [h1]; exact nI_ge (by omega) (by omega)
    refine ⟨(nI (i + 1), gZ τ 20 35 || decide (N % 2 ^ (i + 1) ≠ 0)), ?_, rfl, rfl⟩
    unfold b_MO_rest_7
    simp only [c1, c2, if_false, jat_nI (show i < 2 ^ 31 by omega), cl i (show i < n by omega), nI_1, t2]
    congr 2
    rw [mod_succ]
    have p := pow_pos2 i
    cases gZ τ 20 35 with
    | true => simp
    | false =>
      cases hb : N.testBit i with
      | true =>
        have : ¬ (N % 2 ^ i + true.toNat * 2 ^ i = 0) := by
          simp
        by_cases z : N % 2 ^ i = 0
        · simp [z]
        · simp [z]
      | false =>
        by_cases z : N % 2 ^ i = 0
        · simp [z]
        · simp [z]
  · intro t ⟨t1, t2⟩
    obtain ⟨u1, u2⟩ := t
    simp only at t1 t2
    subst t1
    refine ⟨(nI m, u2), ?_, t2⟩
    have e1 : (nI m).toInt = m := nI_toInt (by omega)
    unfold b_MO_rest_7
    by_cases c1 : a ≤ nI m
    · simp only [c1, if_true]
    · have c2 : gI τ 18 35 ≤ nI m := by
        have q : ¬ a.toInt ≤ (nI m).toInt := fun z => c1 (Int32.le_iff_toInt_le.mpr z)
        rw [h1]
        exact nI_le (by omega) (by omega)
      simp only [c1, if_false, c2, if_true]
  · unfold upf
    rw [e0]
    omega
  · refine ⟨rfl, ?_⟩
    have : N % 2 ^ 0 = 0 := Nat.mod_one N
    rw [this]
    simp
/-- the bits from a place on, also from one below 0 -/
def shZ (N : Nat) (i : Int) : Nat := if 0 ≤ i then N / 2 ^ i.toNat else N * 2 ^ (-i).toNat
theorem shZ_tb (N : Nat) (i : Int) (k : Nat) : (shZ N i).testBit k = bitZ N (i + k) := by
  unfold shZ bitZ
  by_cases c : 0 ≤ i
  · rw [if_pos c, Nat.testBit_div_two_pow]
    have c2 : 0 ≤ i + (k : Int) := by omega
    have e : (i + (k : Int)).toNat = k + i.toNat := by omega
    simp [c2, e]
  · rw [if_neg c, Nat.testBit_mul_two_pow]
    by_cases c2 : 0 ≤ i + (k : Int)
    · have e1 : (-i).toNat ≤ k := by omega
      have e2 : (i + (k : Int)).toNat = k - (-i).toNat := by omega
      simp [c2, e1, e2]
    · have e1 : ¬ (-i).toNat ≤ k := by omega
      simp [c2, e1]
theorem div_succ (Y j : Nat) : Y / 2 ^ j = 2 * (Y / 2 ^ (j + 1)) + (Y.testBit j).toNat := by
  have e : (2 : Nat) ^ (j + 1) = 2 ^ j * 2 := Nat.pow_succ _ _
  rw [e, ← Nat.div_div_eq_div_mul, ntb]
  have := Nat.mod_two_eq_zero_or_one (Y / 2 ^ j)
  rcases this with q | q <;> rw [q] <;> simp <;> omega
theorem whole_M {τ : St} {n N : Nat} (h : RowIs τ n N) (v : Int32) (hv : -100000 ≤ v.toInt ∧ v.toInt ≤ 100000) : uN (lpn (b_MO_times_14 τ v) (dnf 63) (63, 0)).2 = shZ N v.toInt % 2 ^ 64 := by
  have u0 : uN 0 = 0 := rfl
  have u1 : uN 1 = 1 := rfl
  have u2 : uN 2 = 2 := rfl
  obtain ⟨Y, hY⟩ : ∃ Y : Nat, Y = shZ N v.toInt % 2 ^ 64 := ⟨_, rfl⟩
  have hYl : Y < 2 ^ 64 := by rw [hY]; exact Nat.mod_lt _ (pow_pos2 64)
  rw [← hY]
  have tb : ∀ k, k < 64 → Y.testBit k = bitZ N (v.toInt + k) := fun k hk => by
    rw [hY, tb_mod _ _ _ hk, shZ_tb]
  refine lpn_P (b := b_MO_times_14 τ v) (fun i t => t.1 = nI (64 - i) + (-1) ∧ uN t.2 = Y / 2 ^ (64 - i)) (fun y => uN y.2 = Y) 64 ?_ ?_ (by decide) ⟨rfl, ?_⟩
  · intro i t hi ⟨t1, t2⟩
    obtain ⟨x1, x2⟩ := t
    simp only at t1 t2
    obtain ⟨k, hk⟩ : ∃ k, 64 - i = k + 1 := ⟨63 - i, by omega⟩
    have e1 : x1 = nI k := by rw [t1, hk]; exact pk_m1 k
    subst e1
    have e2 : 64 - (i + 1) = k := by omega
    have c1 : ¬ nI k < 0 := nI_pos (by omega)
    have e3 : (nI k).toInt = k := nI_toInt (by omega)
    have e4 : (v + nI k).toInt = v.toInt + k := by rw [i32_addT (by omega) (by omega), e3]
    have hx := uN_lt x2
    refine ⟨(nI k + (-1), 2 * x2 + (if Y.testBit k = true then 1 else 0)), ?_, ?_, ?_⟩
    · unfold b_MO_times_14
      have e5 : f_MO_bit τ (v + nI k) = Y.testBit k := by rw [bit_M h, e4, tb k (by omega)]
      simp only [c1, if_false, e5]
    · rw [e2]
    · have q : uN (if Y.testBit k = true then (1 : Int64) else 0) = (Y.testBit k).toNat := by cases Y.testBit k <;> rfl
      have d := div_succ Y k
      have lt : Y / 2 ^ k < 2 ^ 64 := Nat.lt_of_le_of_lt (Nat.div_le_self _ _) hYl
      show uN (2 * x2 + (if Y.testBit k = true then 1 else 0)) = Y / 2 ^ (64 - (i + 1))
      rw [e2, uN_add, uN_mul, q, u2, t2, hk]
      have := Bool.toNat_le (Y.testBit k)
      omega
  · intro t ⟨t1, t2⟩
    obtain ⟨x1, x2⟩ := t
    simp only at t1 t2
    have e1 : x1 = -1 := by rw [t1]; rfl
    subst e1
    refine ⟨(-1, x2), ?_, ?_⟩
    · unfold b_MO_times_14
      have : (-1 : Int32) < 0 := by decide
      simp only [this, if_true]
    · show uN x2 = Y
      rw [t2]
      simp
  · show uN 0 = Y / 2 ^ 64
    rw [u0, Nat.div_eq_of_lt hYl]
theorem rem_M {w : Nat} (hw : w < 65536) (d k : Nat) (hd : 0 < d) (hd2 : d < 65536) (hk : 0 < k) (hk2 : k < 65536) : jrem (nI w / nI d) (nI k) = nI (w / d % k) := by
  have e1 : nI w / nI d = nI (w / d) := pk_div (by omega) hd (by omega)
  have h2 : w / d ≤ w := Nat.div_le_self _ _
  rw [e1]
  exact pk_rem (by omega) hk (by omega)
theorem times_M {τ : St} {n N w : Nat} {u : Int} (h : RowIs τ n N) (hwd : gI τ 16 35 = nI w) (hw : w < 65536) (hu : (gI τ 19 35).toInt = u) (hub : -40000 ≤ u ∧ u ≤ 40000) (q : Int32) (hq : -40000 ≤ q.toInt ∧ q.toInt ≤ 40000) (sg : Bool) (x : Nat × Bool × Bool) (hx : x = RQ N (gZ τ 20 35) u q.toInt) :
    ∃ W : Int64, f_MO_times τ q sg = (W, sZ τ 25 35 (lossy x)) ∧ uN W = rnd (wayOf w) sg x % 2 ^ 64 := by
  have ev : (q - gI τ 19 35).toInt = q.toInt - u := by rw [i32_subT (by omega) (by omega), hu]
  have e1 : (1 : Int32).toInt = 1 := by decide
  have ev1 : (q - gI τ 19 35 - 1).toInt = q.toInt - u - 1 := by rw [i32_subT (by omega) (by omega), ev, e1]
  have hw1 := whole_M h (q - gI τ 19 35) (by omega)
  rw [ev] at hw1
  -- the three parts
  have x1 : x.1 = shZ N (q.toInt - u) := by
    rw [hx]
    unfold RQ shZ
    by_cases c : u ≤ q.toInt
    · rw [if_pos c, if_pos (by omega)]
    · rw [if_neg c, if_neg (by omega)]
      have : (u - q.toInt).toNat = (-(q.toInt - u)).toNat := by omega
      rw [this]
  have x2 : x.2.1 = bitZ N (q.toInt - u - 1) := by
    rw [hx]
    unfold RQ bitZ
    by_cases c : u ≤ q.toInt
    · rw [if_pos c]
      show hb N (q.toInt - u).toNat = _
      unfold hb
      by_cases c2 : 0 < (q.toInt - u).toNat
      · have e : (q.toInt - u).toNat - 1 = (q.toInt - u - 1).toNat := by omega
        have c3 : 0 ≤ q.toInt - u - 1 := by omega
        rw [decide_eq_true c2, decide_eq_true c3, e]
      · have c3 : ¬ 0 ≤ q.toInt - u - 1 := by omega
        rw [decide_eq_false c2, decide_eq_false c3]
        rfl
    · rw [if_neg c]
      have c3 : ¬ 0 ≤ q.toInt - u - 1 := by omega
      rw [decide_eq_false c3]
      rfl
  have x3 : x.2.2 = (gZ τ 20 35 || decide (N % 2 ^ (q.toInt - u - 1).toNat ≠ 0)) := by
    rw [hx]
    unfold RQ
    by_cases c : u ≤ q.toInt
    · rw [if_pos c]
      show rsb N (q.toInt - u).toNat _ = _
      unfold rsb
      have e : (q.toInt - u).toNat - 1 = (q.toInt - u - 1).toNat := by omega
      rw [e]
    · rw [if_neg c]
      have e : (q.toInt - u - 1).toNat = 0 := by omega
      rw [e]
      have : N % 2 ^ 0 = 0 := Nat.mod_one N
      rw [this]
      simp
  have b1 : f_MO_bit τ (q - gI τ 19 35 - 1) = x.2.1 := by rw [bit_M h, ev1, x2]
  have b2 : f_MO_rest τ (q - gI τ 19 35 - 1) = x.2.2 := by rw [rest_M h _ (by omega), ev1, x3]
  have b3 : f_MO_bit τ (q - gI τ 19 35) = decide (x.1 % 2 = 1) := by
    rw [bit_M h, ev, x1]
    have := shZ_tb N (q.toInt - u) 0
    rw [Nat.testBit_zero] at this
    rw [this]
    simp
  have ls : (if x.2.1 = true then true else if x.2.2 = true then true else false) = lossy x := by
    unfold lossy
    cases x.2.1 <;> cases x.2.2 <;> rfl
  have g16 : gI (sZ τ 25 35 (lossy x)) 16 35 = nI w := hwd
  have g25 : gZ (sZ τ 25 35 (lossy x)) 25 35 = lossy x := by simp [gZ_sZ]
  have h' : RowIs (sZ τ 25 35 (lossy x)) n N := h
  have b4 : f_MO_bit (sZ τ 25 35 (lossy x)) (q - gI τ 19 35) = decide (x.1 % 2 = 1) := by
    rw [bit_M h', ← bit_M h, b3]
  have wy : jrem (nI w / 1024) 4 = nI (wayOf w) := rem_M hw 1024 4 (by decide) (by decide) (by decide) (by decide)
  have up : (if nI (wayOf w) = 0 then if x.2.1 = true then if x.2.2 = true then true else if decide (x.1 % 2 = 1) = true then true else false else false else if nI (wayOf w) = 1 then if sg = true then if lossy x = true then true else false else false else if nI (wayOf w) = 2 then if sg = true then false else if lossy x = true then true else false else false) = upS (wayOf w) sg x := by
    have h4 : wayOf w = 0 ∨ wayOf w = 1 ∨ wayOf w = 2 ∨ wayOf w = 3 := by have := wayOf_lt w; omega
    unfold upS
    generalize lossy x = L
    generalize decide (x.1 % 2 = 1) = O
    generalize x.2.1 = X2
    generalize x.2.2 = X3
    rcases h4 with e | e | e | e <;> rw [e] <;> cases L <;> cases O <;> cases X2 <;> cases X3 <;> cases sg <;> rfl
  unfold f_MO_times
  simp only [b1, b2, ls, g16, g25, b4, wy, up]
  generalize hL : (lpn (b_MO_times_14 τ (q - gI τ 19 35)) (dnf 63) (63, 0)).2 = L at *
  have hLl := uN_lt L
  cases hup : upS (wayOf w) sg x with
  | true =>
    refine ⟨L + 1, by simp, ?_⟩
    unfold rnd
    rw [hup, uN_add, hw1, ← x1]
    show (x.1 % 2 ^ 64 + 1) % 2 ^ 64 = (x.1 + 1) % 2 ^ 64
    omega
  | false =>
    refine ⟨L, by simp, ?_⟩
    unfold rnd
    rw [hup, hw1, ← x1]
    rfl
