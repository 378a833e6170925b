/-! unsigned numbers: the rows uN_.. are pasted from kit/laws/BITS.to-paste, the rest is ours -/
def uN (x : Int64) : Nat := x.toUInt64.toNat
theorem uN_lt (x : Int64) : uN x < 18446744073709551616 := x.toUInt64.toNat_lt
theorem uN_inj {x y : Int64} (h : uN x = uN y) : x = y := congrArg UInt64.toInt64 (UInt64.toNat_inj.mp h)
theorem uN_add (x y : Int64) : uN (x + y) = (uN x + uN y) % 18446744073709551616 := by
  show (x.toUInt64 + y.toUInt64).toNat = _
  exact UInt64.toNat_add _ _
theorem uN_mul (x y : Int64) : uN (x * y) = (uN x * uN y) % 18446744073709551616 := by
  show (x.toUInt64 * y.toUInt64).toNat = _
  exact UInt64.toNat_mul _ _
theorem uN_shl (x : Int64) : uN (x <<< ((1 : Int32).toInt64 &&& 63)) = (2 * uN x) % 18446744073709551616 := by
  have h : (((1 : Int32).toInt64 &&& 63).toBitVec.smod 64).toNat = 1 := by decide
  show (x.toBitVec <<< (((1 : Int32).toInt64 &&& 63).toBitVec.smod 64).toNat).toNat = _
  rw [h, BitVec.toNat_shiftLeft, Nat.shiftLeft_eq, Nat.mul_comm]
  rfl
theorem uN_shr (x : Int64) (s : UInt64) : uN (x.toUInt64 >>> s).toInt64 = uN x / 2 ^ (s.toNat % 64) := by
  show (x.toUInt64 >>> s).toNat = _
  rw [UInt64.toNat_shiftRight, Nat.shiftRight_eq_div_pow]
  rfl
theorem uN_s32 (x : Int64) : uN (x.toUInt64 >>> ((32 : Int32).toInt64.toUInt64 &&& Int64.toUInt64 63)).toInt64 = uN x / 4294967296 := by
  have h : ((32 : Int32).toInt64.toUInt64 &&& Int64.toUInt64 63).toNat % 64 = 32 := by decide
  rw [uN_shr, h]
theorem uN_s63 (x : Int64) : uN (x.toUInt64 >>> ((63 : Int32).toInt64.toUInt64 &&& Int64.toUInt64 63)).toInt64 = uN x / 9223372036854775808 := by
  have h : ((63 : Int32).toInt64.toUInt64 &&& Int64.toUInt64 63).toNat % 64 = 63 := by decide
  rw [uN_shr, h]
theorem uN_lo (x : Int64) : uN (x &&& 4294967295) = uN x % 4294967296 := by
  show (x.toUInt64 &&& Int64.toUInt64 4294967295).toNat = _
  rw [UInt64.toNat_and]
  exact Nat.and_two_pow_sub_one_eq_mod _ 32
theorem uN_bit (x : Int64) : (x &&& 1) = 0 ↔ uN x % 2 = 0 := by
  have h : uN (x &&& 1) = uN x % 2 := by
    show (x.toUInt64 &&& Int64.toUInt64 1).toNat = _
    rw [UInt64.toNat_and]
    exact Nat.and_two_pow_sub_one_eq_mod _ 1
  rw [← h]
  exact ⟨fun z => by rw [z]; rfl, fun z => uN_inj (z.trans rfl)⟩
theorem uN_or {x y : Int64} (hy : uN y < 2) : uN ((x <<< ((1 : Int32).toInt64 &&& 63)) ||| y) = (2 * uN x) % 18446744073709551616 + uN y := by
  have h1 : uN ((x <<< ((1 : Int32).toInt64 &&& 63)) ||| y) = uN (x <<< ((1 : Int32).toInt64 &&& 63)) ||| uN y := UInt64.toNat_or _ _
  have h2 : (2 * uN x) % 18446744073709551616 = 2 ^ 1 * (uN x % 9223372036854775808) := by omega
  rw [h1, uN_shl, h2]
  exact (Nat.two_pow_add_eq_or_of_lt (i := 1) hy _).symm
theorem nat_xor {a : Nat} (h : a < 18446744073709551616) : a ^^^ 2 ^ 63 = (a + 9223372036854775808) % 18446744073709551616 := by
  have h1 : (a ^^^ 2 ^ 63) % 2 ^ 63 = a % 2 ^ 63 := by rw [Nat.xor_mod_two_pow, Nat.mod_self, Nat.xor_zero]
  have h2 : (a ^^^ 2 ^ 63) / 2 ^ 63 = (a / 2 ^ 63) ^^^ 1 := by rw [Nat.xor_div_two_pow, Nat.div_self (Nat.two_pow_pos 63)]
  have h3 : a / 2 ^ 63 = 0 ∨ a / 2 ^ 63 = 1 := by omega
  generalize a ^^^ 2 ^ 63 = t at h1 h2
  rcases h3 with h3 | h3
  · rw [h3] at h2
    have h2 : t / 2 ^ 63 = 1 := h2
    omega
  · rw [h3] at h2
    have h2 : t / 2 ^ 63 = 0 := h2
    omega
theorem uN_xor (x : Int64) : uN (x ^^^ (-9223372036854775808)) = (uN x + 9223372036854775808) % 18446744073709551616 := by
  rw [← nat_xor (uN_lt x)]
  exact UInt64.toNat_xor _ _
theorem uN_int (x : Int64) : x.toInt = if 2 * uN x < 18446744073709551616 then (uN x : Int) else (uN x : Int) - 18446744073709551616 := BitVec.toInt_eq_toNat_cond _
theorem uN_le (x y : Int64) : (x ^^^ (-9223372036854775808)) ≤ (y ^^^ (-9223372036854775808)) ↔ uN x ≤ uN y := by
  have hx := uN_lt x
  have hy := uN_lt y
  rw [Int64.le_iff_toInt_le, uN_int, uN_int, uN_xor, uN_xor]
  omega
theorem uN_sk (x : Int64) {k : Nat} (hk : k < 64) : uN (x.toUInt64 >>> ((nI k).toInt64.toUInt64 &&& Int64.toUInt64 63)).toInt64 = uN x / 2 ^ k := by
  have h : ((nI k).toInt64.toUInt64 &&& Int64.toUInt64 63).toNat % 64 = k := by
    rw [nI_l (by omega), UInt64.toNat_and]
    have e : (lN k).toUInt64.toNat = k % 2 ^ 64 := rfl
    have e2 : (Int64.toUInt64 63).toNat = 2 ^ 6 - 1 := by decide
    rw [e, e2, Nat.and_two_pow_sub_one_eq_mod]
    omega
  rw [uN_shr, h]
theorem uN_lt2 (x : Int64) : uN x < 2 ^ 64 := uN_lt x
theorem uN_lN {n : Nat} (h : n < 18446744073709551616) : uN (lN n) = n := by
  show (Int64.ofNat n).toUInt64.toNat = n
  have : (lN n).toBitVec.toNat = n := by
    show (BitVec.ofNat 64 n).toNat = n
    rw [BitVec.toNat_ofNat]
    exact Nat.mod_eq_of_lt h
  exact this
theorem lN_uN (x : Int64) : lN (uN x) = x := uN_inj (uN_lN (uN_lt x))
theorem uN_eq0 {x : Int64} : x = 0 ↔ uN x = 0 := ⟨fun h => by rw [h]; rfl, fun h => uN_inj (h.trans rfl)⟩
theorem uN_eq {x y : Int64} : x = y ↔ uN x = uN y := ⟨fun h => by rw [h], uN_inj⟩
theorem uN_neg {x : Int64} : x < 0 ↔ 9223372036854775808 ≤ uN x := by
  have hx := uN_lt x
  have e : (0 : Int64).toInt = 0 := rfl
  rw [Int64.lt_iff_toInt_lt, uN_int x, e]
  split <;> omega
theorem uN_nn {x : Int64} : 0 ≤ x ↔ uN x < 9223372036854775808 := by
  rw [← Int64.not_lt, uN_neg]
  omega
theorem uN_np {x : Int64} : x ≤ 0 ↔ uN x = 0 ∨ 9223372036854775808 ≤ uN x := by
  have hx := uN_lt x
  have e : (0 : Int64).toInt = 0 := rfl
  rw [Int64.le_iff_toInt_le, uN_int x, e]
  split <;> omega
theorem uN_sub (x y : Int64) : uN (x - y) = (uN x + (18446744073709551616 - uN y)) % 18446744073709551616 := by
  have h1 : uN (x - y) = (18446744073709551616 - uN y + uN x) % 18446744073709551616 := by
    show (x.toUInt64 - y.toUInt64).toNat = _
    exact UInt64.toNat_sub _ _
  rw [h1, Nat.add_comm]
theorem uN_negate (x : Int64) : uN (-x) = (18446744073709551616 - uN x) % 18446744073709551616 := by
  have e : -x = 0 - x := by
    apply Int64.toBitVec_inj.mp
    simp
  rw [e, uN_sub]
  have : uN 0 = 0 := rfl
  rw [this, Nat.zero_add]
theorem uN_orr (x y : Int64) : uN (x ||| y) = uN x ||| uN y := UInt64.toNat_or _ _
theorem uN_andd (x y : Int64) : uN (x &&& y) = uN x &&& uN y := UInt64.toNat_and _ _
theorem uN_xorr (x y : Int64) : uN (x ^^^ y) = uN x ^^^ uN y := UInt64.toNat_xor _ _
/-- what lies above a place and what lies below it -/
theorem or_add {a b k : Nat} (h : b < 2 ^ k) : a * 2 ^ k ||| b = a * 2 ^ k + b := by
  rw [Nat.mul_comm]
  exact (Nat.two_pow_add_eq_or_of_lt h a).symm
theorem mod_mul_pow (a k n : Nat) (h : k ≤ n) : a * 2 ^ k % 2 ^ n = a % 2 ^ (n - k) * 2 ^ k := by
  have e : 2 ^ n = 2 ^ (n - k) * 2 ^ k := by rw [← Nat.pow_add]; congr 1; omega
  rw [e, Nat.mul_mod_mul_right]
theorem sh_c : ∀ k : Nat, k < 64 → (((nI k).toInt64 &&& 63).toBitVec.smod 64).toNat = k := by decide
theorem uN_jlshl (x : Int64) {y : Int32} (k : Nat) (hy : y = nI k) (hk : k < 64) : uN (jlshl x y) = uN x * 2 ^ k % 18446744073709551616 := by
  subst hy
  unfold jlshl
  show (x.toBitVec <<< (((nI k).toInt64 &&& 63).toBitVec.smod 64).toNat).toNat = _
  rw [sh_c k hk, BitVec.toNat_shiftLeft, Nat.shiftLeft_eq]
  rfl
theorem uN_jlushr (x : Int64) {y : Int32} (k : Nat) (hy : y = nI k) (hk : k < 64) : uN (jlushr x y) = uN x / 2 ^ k := by
  subst hy
  exact uN_sk x hk
theorem uN_bitb (x : Int64) {y : Int32} (k : Nat) (hy : y = nI k) (hk : k < 64) : uN (jlshr x y &&& 1) = uN x / 2 ^ k % 2 := by
  subst hy
  have h1 : (jlshr x (nI k)).toBitVec = x.toBitVec.sshiftRight k := by
    unfold jlshr
    rw [Int64.toBitVec_shiftRight, BitVec.sshiftRight', sh_c k hk]
  have h2 : uN (jlshr x (nI k) &&& 1) = (x.toBitVec.sshiftRight k &&& 1#64).toNat := by
    rw [← h1]
    rfl
  have h3 : x.toBitVec.sshiftRight k &&& 1#64 = BitVec.ofNat 64 (uN x / 2 ^ k % 2) := by
    apply BitVec.eq_of_getLsbD_eq
    intro i hi
    rw [BitVec.getLsbD_and, BitVec.getLsbD_sshiftRight, BitVec.getLsbD_ofNat, BitVec.getLsbD_ofNat]
    rcases Nat.eq_zero_or_pos i with rfl | hp
    · have e2 : (uN x / 2 ^ k % 2).testBit 0 = (uN x).testBit k := by
        rw [Nat.testBit_zero, Nat.testBit_eq_decide_div_mod_eq]
        simp
      simp [hk, e2]
      rfl
    · have e1 : Nat.testBit 1 i = false := by
        apply Nat.testBit_lt_two_pow
        have : 2 ^ 1 ≤ 2 ^ i := Nat.pow_le_pow_right (by decide) hp
        omega
      have e2 : (uN x / 2 ^ k % 2).testBit i = false := by
        apply Nat.testBit_lt_two_pow
        have : 2 ^ 1 ≤ 2 ^ i := Nat.pow_le_pow_right (by decide) hp
        omega
      rw [e1, e2]
      simp
  rw [h2, h3, BitVec.toNat_ofNat]
  omega
theorem bit1 (x : Int64) {y : Int32} (k : Nat) (hy : y = nI k) (hk : k < 64) : (jlshr x y &&& 1 = 1) ↔ (uN x).testBit k = true := by
  rw [uN_eq, uN_bitb x k hy hk, Nat.testBit_eq_decide_div_mod_eq]
  have : uN 1 = 1 := rfl
  rw [this]
  simp
theorem bit0 (x : Int64) {y : Int32} (k : Nat) (hy : y = nI k) (hk : k < 64) : (jlshr x y &&& 1 = 0) ↔ (uN x).testBit k = false := by
  rw [uN_eq, uN_bitb x k hy hk, Nat.testBit_eq_decide_div_mod_eq]
  have : uN 0 = 0 := rfl
  rw [this]
  simp
theorem isBelow_eq (a b : Int64) : f_Size_isBelow a b = decide (uN a < uN b) := by
  unfold f_Size_isBelow
  simp only [uN_le]
  by_cases h : uN b ≤ uN a
  · simp [h]
  · simp [h]
    omega
theorem below_eq (a b : Int64) : f_MO_below a b = decide (uN a < uN b) := by
  have ha := uN_lt a
  have hb := uN_lt b
  have h1 := uN_int a
  have h2 := uN_int b
  have k2 : (b ≤ a) ↔ ((uN b < 9223372036854775808 ∧ uN a < 9223372036854775808 ∧ uN b ≤ uN a) ∨ (9223372036854775808 ≤ uN b ∧ 9223372036854775808 ≤ uN a ∧ uN b ≤ uN a) ∨ (9223372036854775808 ≤ uN b ∧ uN a < 9223372036854775808)) := by
    rw [Int64.le_iff_toInt_le, h1, h2]
    split <;> split <;> omega
  unfold f_MO_below
  simp only [uN_neg, k2]
  by_cases c1 : 9223372036854775808 ≤ uN a <;> by_cases c2 : 9223372036854775808 ≤ uN b <;> by_cases c3 : uN a < uN b <;> simp [c1, c2, c3] <;> omega
theorem lessSize_eq (a b : Int64) : f_MS_lessSize a b = decide (uN a < uN b) := by
  have ha := uN_lt a
  have hb := uN_lt b
  have e : uN (-9223372036854775808) = 9223372036854775808 := rfl
  have h1 := uN_int (a + (-9223372036854775808))
  have h2 := uN_int (b + (-9223372036854775808))
  rw [uN_add, e] at h1 h2
  have key : ((b + (-9223372036854775808)) ≤ (a + (-9223372036854775808))) ↔ ¬ uN a < uN b := by
    rw [Int64.le_iff_toInt_le, h1, h2]
    split <;> split <;> omega
  unfold f_MS_lessSize
  simp only [key]
  by_cases h : uN a < uN b <;> simp [h]
/-! loops by what holds after i rounds -/
theorem lpn_P {T : Type} {b : T → Bool × T} (P : Nat → T → Prop) (Q : T → Prop) (n : Nat) (hs : ∀ i t, i < n → P i t → ∃ t1, b t = (true, t1) ∧ P (i + 1) t1) (hx : ∀ t, P n t → ∃ y, b t = (false, y) ∧ Q y) {m : Nat} {t : T} (hm : n < m) (h0 : P 0 t) : Q (lpn b m t) := by
  have gen : ∀ d i m t, i + d = n → d < m → P i t → Q (lpn b m t) := by
    intro d
    induction d with
    | zero =>
      intro i m t e hm h
      obtain ⟨k, rfl⟩ : ∃ k, m = k + 1 := ⟨m - 1, by omega⟩
      obtain ⟨y, e2, hq⟩ := hx t (by rw [← e]; exact h)
      simp only [lpn, e2]
      exact hq
    | succ d ih =>
      intro i m t e hm h
      obtain ⟨k, rfl⟩ : ∃ k, m = k + 1 := ⟨m - 1, by omega⟩
      obtain ⟨t1, e2, h1⟩ := hs i t (by omega) h
      simp only [lpn, e2]
      exact ih (i + 1) k t1 (by omega) (by omega) h1
  exact gen n 0 m t (by omega) hm h0
/-- a loop that ends sooner or later: what holds at its end, by a measure -/
theorem lpn_M {T : Type} {b : T → Bool × T} (P : T → Prop) (μ : T → Nat) (Q : T → Prop) (hs : ∀ t, P t → (∃ t1, b t = (true, t1) ∧ P t1 ∧ μ t1 < μ t) ∨ ∃ y, b t = (false, y) ∧ Q y) : ∀ m t, μ t < m → P t → Q (lpn b m t) := by
  intro m
  induction m with
  | zero => intro t h _; omega
  | succ m ih =>
    intro t h hp
    rcases hs t hp with ⟨t1, e, h1, h2⟩ | ⟨y, e, hq⟩
    · simp only [lpn, e]
      exact ih t1 (by omega) h1
    · simp only [lpn, e]
      exact hq
/-! states -/
theorem St_ext {σ τ : St} (h1 : ∀ k o, gI σ k o = gI τ k o) (h2 : ∀ k o, gJ σ k o = gJ τ k o) (h3 : ∀ k o, gZ σ k o = gZ τ k o) : σ = τ :=
  Prod.ext (funext fun k => funext fun o => h1 k o) (Prod.ext (funext fun k => funext fun o => h2 k o) (funext fun k => funext fun o => h3 k o))
theorem sJ_sJ (σ : St) (k o : Nat) (v w : Int64) : sJ (sJ σ k o v) k o w = sJ σ k o w := by
  apply St_ext <;> intro k' o' <;> simp only [gI_sJ, gJ_sJ, gZ_sJ]
  split
  · split <;> rfl
  · rfl
theorem sI_sI (σ : St) (k o : Nat) (v w : Int32) : sI (sI σ k o v) k o w = sI σ k o w := by
  apply St_ext <;> intro k' o' <;> simp only [gI_sI, gJ_sI, gZ_sI]
  split
  · split <;> rfl
  · rfl
theorem sZ_sZ (σ : St) (k o : Nat) (v w : Bool) : sZ (sZ σ k o v) k o w = sZ σ k o w := by
  apply St_ext <;> intro k' o' <;> simp only [gI_sZ, gJ_sZ, gZ_sZ]
  split
  · split <;> rfl
  · rfl
