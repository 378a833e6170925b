/-! a number N, and a part of one more if s, times 2^e, seen in units of 2^q: the whole, the half, the rest -/
def hb (N d : Nat) : Bool := decide (0 < d) && N.testBit (d - 1)
def rsb (N d : Nat) (s : Bool) : Bool := s || decide (N % 2 ^ (d - 1) ≠ 0)
def RQ (N : Nat) (s : Bool) (e q : Int) : Nat × Bool × Bool :=
  if e ≤ q then (N / 2 ^ (q - e).toNat, hb N (q - e).toNat, rsb N (q - e).toNat s)
  else (N * 2 ^ (e - q).toNat, false, s)
theorem RQ_ge {N : Nat} {s : Bool} {e q : Int} (d : Nat) (h : q = e + d) : RQ N s e q = (N / 2 ^ d, hb N d, rsb N d s) := by
  have e1 : (q - e).toNat = d := by omega
  unfold RQ
  rw [if_pos (by omega), e1]
theorem RQ_lt {N : Nat} {s : Bool} {e q : Int} (d : Nat) (h : e = q + d) (hd : 0 < d) : RQ N s e q = (N * 2 ^ d, false, s) := by
  have e1 : (e - q).toNat = d := by omega
  unfold RQ
  rw [if_neg (by omega), e1]
theorem pow_pos2 (k : Nat) : 0 < 2 ^ k := Nat.two_pow_pos k
theorem mul_pow_div (N a b : Nat) : N * 2 ^ (a + b) / 2 ^ b = N * 2 ^ a := by
  rw [Nat.pow_add, ← Nat.mul_assoc, Nat.mul_div_cancel _ (pow_pos2 b)]
theorem mul_pow_div2 (N a b : Nat) : N * 2 ^ b / 2 ^ (a + b) = N / 2 ^ a := by
  rw [Nat.pow_add, Nat.mul_div_mul_right _ _ (pow_pos2 b)]
theorem mul_pow_mod0 (N a b : Nat) (h : a ≤ b) : N * 2 ^ b % 2 ^ a = 0 := by
  obtain ⟨c, rfl⟩ : ∃ c, b = a + c := ⟨b - a, by omega⟩
  rw [Nat.pow_add, Nat.mul_left_comm]
  exact Nat.mul_mod_right _ _
theorem hb_scale (N d j : Nat) : hb (N * 2 ^ j) (d + j) = hb N d := by
  unfold hb
  rw [Nat.testBit_mul_two_pow]
  rcases Nat.eq_zero_or_pos d with rfl | h
  · by_cases hj : 0 < j
    · have : ¬ (j ≤ 0 + j - 1) := by omega
      simp [this]
      intro _
      omega
    · simp
      intro h2
      omega
  · have e : d + j - 1 - j = d - 1 := by omega
    have e2 : j ≤ d + j - 1 := by omega
    have e3 : 0 < d + j := by omega
    simp [e, e2, e3, h]
theorem rsb_scale (N d j : Nat) (s : Bool) : rsb (N * 2 ^ j) (d + j) s = rsb N d s := by
  unfold rsb
  rcases Nat.eq_zero_or_pos d with rfl | h
  · rw [mul_pow_mod0 _ _ _ (by omega)]
    simp [Nat.mod_one]
  · have e : d + j - 1 = (d - 1) + j := by omega
    rw [e, Nat.pow_add, Nat.mul_mod_mul_right]
    have : ∀ x : Nat, (x * 2 ^ j ≠ 0) ↔ (x ≠ 0) := fun x => by
      have := pow_pos2 j
      constructor
      · intro h1 h2
        rw [h2] at h1
        simp at h1
      · intro h1
        exact Nat.mul_ne_zero h1 (by omega)
    simp only [this]
theorem RQ_scale (N : Nat) (s : Bool) (e q : Int) (j : Nat) : RQ (N * 2 ^ j) s (e - j) q = RQ N s e q := by
  by_cases h1 : e ≤ q
  · obtain ⟨d, hd⟩ : ∃ d : Nat, q = e + d := ⟨(q - e).toNat, by omega⟩
    rw [RQ_ge d hd, RQ_ge (d + j) (by omega), mul_pow_div2, hb_scale, rsb_scale]
  · obtain ⟨m, hm⟩ : ∃ m : Nat, e = q + m := ⟨(e - q).toNat, by omega⟩
    rw [RQ_lt m hm (by omega)]
    by_cases h2 : m ≤ j
    · obtain ⟨d, rfl⟩ : ∃ d, j = m + d := ⟨j - m, by omega⟩
      rw [RQ_ge d (by omega), mul_pow_div]
      have a1 : hb (N * 2 ^ (m + d)) d = false := by
        unfold hb
        rw [Nat.testBit_mul_two_pow]
        by_cases hd : 0 < d
        · have : ¬ (m + d ≤ d - 1) := by omega
          simp [this]
        · simp
          intro h
          omega
      have a2 : rsb (N * 2 ^ (m + d)) d s = s := by
        unfold rsb
        rw [mul_pow_mod0 _ _ _ (by omega)]
        simp
      rw [a1, a2]
    · obtain ⟨d, rfl⟩ : ∃ d, m = j + d := ⟨m - j, by omega⟩
      rw [RQ_lt d (by omega) (by omega), Nat.mul_assoc, ← Nat.pow_add]
theorem RQ_trunc (N : Nat) (s : Bool) (e q : Int) (j : Nat) (h : e + j + 1 ≤ q) : RQ (N / 2 ^ j) (s || decide (N % 2 ^ j ≠ 0)) (e + j) q = RQ N s e q := by
  obtain ⟨d, hd⟩ : ∃ d : Nat, q = e + j + (d + 1 : Nat) := ⟨(q - e - j - 1).toNat, by omega⟩
  rw [RQ_ge (d + 1) hd, RQ_ge (j + (d + 1)) (by omega)]
  have a1 : N / 2 ^ j / 2 ^ (d + 1) = N / 2 ^ (j + (d + 1)) := by rw [Nat.div_div_eq_div_mul, ← Nat.pow_add]
  have a2 : hb (N / 2 ^ j) (d + 1) = hb N (j + (d + 1)) := by
    unfold hb
    rw [Nat.testBit_div_two_pow]
    have e1 : d + 1 - 1 + j = j + (d + 1) - 1 := by omega
    rw [e1]
    simp
    intro _
    omega
  have a3 : rsb (N / 2 ^ j) (d + 1) (s || decide (N % 2 ^ j ≠ 0)) = rsb N (j + (d + 1)) s := by
    unfold rsb
    have e1 : j + (d + 1) - 1 = j + d := by omega
    have e2 : d + 1 - 1 = d := by omega
    rw [e1, e2, Nat.pow_add, Nat.mod_mul, Bool.or_assoc]
    congr 1
    have := pow_pos2 j
    by_cases hc : N % 2 ^ j = 0
    · by_cases hd2 : N / 2 ^ j % 2 ^ d = 0
      · simp [hc, hd2]
      · have : ¬ 2 ^ j * (N / 2 ^ j % 2 ^ d) = 0 := fun q => by
          rcases Nat.mul_eq_zero.mp q with q | q
          · omega
          · exact hd2 q
        simp [hc, hd2]
        exact this
    · have : ¬ (N % 2 ^ j + 2 ^ j * (N / 2 ^ j % 2 ^ d) = 0) := by omega
      simp [hc]
  rw [a1, a2, a3]
/-- the highest bit of N is t -/
def Lg (N t : Nat) : Prop := 2 ^ t ≤ N ∧ N < 2 ^ (t + 1)
theorem Lg_uniq {N t u : Nat} (h : Lg N t) (g : Lg N u) : t = u := by
  rcases Nat.lt_trichotomy t u with q | q | q
  · have : 2 ^ (t + 1) ≤ 2 ^ u := Nat.pow_le_pow_right (by decide) q
    have := h.2
    have := g.1
    omega
  · exact q
  · have : 2 ^ (u + 1) ≤ 2 ^ t := Nat.pow_le_pow_right (by decide) q
    have := g.2
    have := h.1
    omega
theorem Lg_ex {N : Nat} (h : 0 < N) : ∃ t, Lg N t := by
  refine ⟨N.log2, ?_, ?_⟩
  · exact (Nat.le_log2 (by omega)).mp (Nat.le_refl _)
  · exact (Nat.log2_lt (by omega)).mp (Nat.lt_succ_self _)
theorem Lg_mul {N t : Nat} (h : Lg N t) (j : Nat) : Lg (N * 2 ^ j) (t + j) := by
  constructor
  · rw [Nat.pow_add]
    exact Nat.mul_le_mul_right _ h.1
  · have e : t + j + 1 = t + 1 + j := by omega
    rw [e, Nat.pow_add]
    exact Nat.mul_lt_mul_of_pos_right h.2 (pow_pos2 j)
theorem Lg_div {N t j : Nat} (h : Lg N (t + j)) : Lg (N / 2 ^ j) t := by
  have h1 := h.1
  have h2 := h.2
  constructor
  · rw [Nat.le_div_iff_mul_le (pow_pos2 j), ← Nat.pow_add]
    exact h1
  · rw [Nat.div_lt_iff_lt_mul (pow_pos2 j), ← Nat.pow_add]
    have e : t + 1 + j = t + j + 1 := by omega
    rw [e]
    exact h2
/-! rounding: what a made number is -/
def lossy (x : Nat × Bool × Bool) : Bool := x.2.1 || x.2.2
def upS (way : Nat) (m : Bool) (x : Nat × Bool × Bool) : Bool :=
  if way = 0 then x.2.1 && (x.2.2 || decide (x.1 % 2 = 1)) else if way = 1 then m && lossy x else if way = 2 then !m && lossy x else if way = 4 then x.2.1 && x.2.2 else false
def rnd (way : Nat) (m : Bool) (x : Nat × Bool × Bool) : Nat := x.1 + (upS way m x).toNat
def digitsOf (w : Nat) : Nat := if w / 256 % 4 = 0 then 24 else if w / 256 % 4 = 2 then 53 else 64
def wayOf (w : Nat) : Nat := w / 1024 % 4
def infS (way : Nat) (m : Bool) : Bool := decide (way = 0) || decide (way = if m then 1 else 2)
/-- told, power, fraction of the real that is made at n digits -/
def SP (w n : Nat) (m : Bool) (k : Int) (f : Int → Nat × Bool × Bool) : Nat × Int × Nat :=
  if k < -16382 ∧ w / 16 % 2 = 1 then
    (if lossy (f (-16381 - n)) then 48 else 0, if 2 ^ 63 ≤ rnd (wayOf w) m (f (-16381 - n)) * 2 ^ (64 - n) then 1 else 0, rnd (wayOf w) m (f (-16381 - n)) * 2 ^ (64 - n))
  else if k < -16382 then
    (16 + (if lossy (f (k + 1 - n)) then 32 else 0), k + 16383 + 24576 + (if rnd (wayOf w) m (f (k + 1 - n)) = 2 ^ n then 1 else 0), if rnd (wayOf w) m (f (k + 1 - n)) = 2 ^ n then 2 ^ 63 else rnd (wayOf w) m (f (k + 1 - n)) * 2 ^ (64 - n))
  else if k + 16383 + (if rnd (wayOf w) m (f (k + 1 - n)) = 2 ^ n then 1 else 0) < 32767 then
    (if lossy (f (k + 1 - n)) then 32 else 0, k + 16383 + (if rnd (wayOf w) m (f (k + 1 - n)) = 2 ^ n then 1 else 0), if rnd (wayOf w) m (f (k + 1 - n)) = 2 ^ n then 2 ^ 63 else rnd (wayOf w) m (f (k + 1 - n)) * 2 ^ (64 - n))
  else if w / 8 % 2 = 1 then
    (40, if infS (wayOf w) m then 32767 else 32766, if infS (wayOf w) m then 2 ^ 63 else (2 ^ n - 1) * 2 ^ (64 - n))
  else
    (8 + (if lossy (f (k + 1 - n)) then 32 else 0), k + 16383 - 24576 + (if rnd (wayOf w) m (f (k + 1 - n)) = 2 ^ n then 1 else 0), if rnd (wayOf w) m (f (k + 1 - n)) = 2 ^ n then 2 ^ 63 else rnd (wayOf w) m (f (k + 1 - n)) * 2 ^ (64 - n))
/-- only two units are looked at -/
theorem SP_congr {w n : Nat} {m : Bool} {k : Int} {f g : Int → Nat × Bool × Bool} (h1 : f (k + 1 - n) = g (k + 1 - n)) (h2 : k < -16382 → f (-16381 - n) = g (-16381 - n)) : SP w n m k f = SP w n m k g := by
  unfold SP
  rw [h1]
  by_cases hk : k < -16382
  · rw [h2 hk]
  · simp only [hk, false_and, if_false]
theorem SP_1 {w n : Nat} {m : Bool} {k : Int} {f : Int → Nat × Bool × Bool} (h1 : k < -16382) (h2 : w / 16 % 2 = 1) (x : Nat × Bool × Bool) (hx : f (-16381 - n) = x) : SP w n m k f = (if lossy x then 48 else 0, if 2 ^ 63 ≤ rnd (wayOf w) m x * 2 ^ (64 - n) then 1 else 0, rnd (wayOf w) m x * 2 ^ (64 - n)) := by
  unfold SP
  rw [if_pos ⟨h1, h2⟩, hx]
theorem SP_2 {w n : Nat} {m : Bool} {k : Int} {f : Int → Nat × Bool × Bool} (h1 : k < -16382) (h2 : ¬ w / 16 % 2 = 1) (x : Nat × Bool × Bool) (hx : f (k + 1 - n) = x) : SP w n m k f = (16 + (if lossy x then 32 else 0), k + 16383 + 24576 + (if rnd (wayOf w) m x = 2 ^ n then 1 else 0), if rnd (wayOf w) m x = 2 ^ n then 2 ^ 63 else rnd (wayOf w) m x * 2 ^ (64 - n)) := by
  unfold SP
  rw [if_neg (fun q => h2 q.2), if_pos h1, hx]
theorem SP_3 {w n : Nat} {m : Bool} {k : Int} {f : Int → Nat × Bool × Bool} (h1 : ¬ k < -16382) (x : Nat × Bool × Bool) (hx : f (k + 1 - n) = x) (h2 : k + 16383 + (if rnd (wayOf w) m x = 2 ^ n then 1 else 0) < 32767) : SP w n m k f = (if lossy x then 32 else 0, k + 16383 + (if rnd (wayOf w) m x = 2 ^ n then 1 else 0), if rnd (wayOf w) m x = 2 ^ n then 2 ^ 63 else rnd (wayOf w) m x * 2 ^ (64 - n)) := by
  unfold SP
  rw [if_neg (fun q => h1 q.1), if_neg h1, hx, if_pos h2]
theorem SP_4 {w n : Nat} {m : Bool} {k : Int} {f : Int → Nat × Bool × Bool} (h1 : ¬ k < -16382) (x : Nat × Bool × Bool) (hx : f (k + 1 - n) = x) (h2 : ¬ k + 16383 + (if rnd (wayOf w) m x = 2 ^ n then 1 else 0) < 32767) (h3 : w / 8 % 2 = 1) : SP w n m k f = (40, if infS (wayOf w) m then 32767 else 32766, if infS (wayOf w) m then 2 ^ 63 else (2 ^ n - 1) * 2 ^ (64 - n)) := by
  unfold SP
  rw [if_neg (fun q => h1 q.1), if_neg h1, hx, if_neg h2, if_pos h3]
theorem SP_5 {w n : Nat} {m : Bool} {k : Int} {f : Int → Nat × Bool × Bool} (h1 : ¬ k < -16382) (x : Nat × Bool × Bool) (hx : f (k + 1 - n) = x) (h2 : ¬ k + 16383 + (if rnd (wayOf w) m x = 2 ^ n then 1 else 0) < 32767) (h3 : ¬ w / 8 % 2 = 1) : SP w n m k f = (8 + (if lossy x then 32 else 0), k + 16383 - 24576 + (if rnd (wayOf w) m x = 2 ^ n then 1 else 0), if rnd (wayOf w) m x = 2 ^ n then 2 ^ 63 else rnd (wayOf w) m x * 2 ^ (64 - n)) := by
  unfold SP
  rw [if_neg (fun q => h1 q.1), if_neg h1, hx, if_neg h2, if_neg h3]
