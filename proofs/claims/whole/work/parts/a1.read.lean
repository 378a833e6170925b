/-! numbers in memory, read -/
def numRe (s : Bool) (N : Nat) (e : Int) : Ra := if N = 0 then (s, 0, 0) else (s, e + N.log2 + 16383, N * 2 ^ (63 - N.log2))
theorem log2_mul {N : Nat} (h : N ≠ 0) (j : Nat) : (N * 2 ^ j).log2 = N.log2 + j := by
  have l : Lg N N.log2 := ⟨(Nat.le_log2 h).mp (Nat.le_refl _), (Nat.log2_lt h).mp (Nat.lt_succ_self _)⟩
  exact Lg_log2 (Lg_mul l j)
theorem numRe_scale (s : Bool) (N : Nat) (e : Int) (j : Nat) (h : N.log2 + j ≤ 63) : numRe s (N * 2 ^ j) (e - j) = numRe s N e := by
  by_cases z : N = 0
  · subst z
    unfold numRe
    simp
  · have z2 : ¬ N * 2 ^ j = 0 := fun q => by
      rcases Nat.mul_eq_zero.mp q with w | w
      · exact z w
      · exact absurd w (by have := pow_pos2 j; omega)
    unfold numRe
    rw [if_neg z, if_neg z2, log2_mul z]
    have e1 : e - (j : Int) + ((N.log2 + j : Nat) : Int) + 16383 = e + N.log2 + 16383 := by omega
    have e2 : N * 2 ^ j * 2 ^ (63 - (N.log2 + j)) = N * 2 ^ (63 - N.log2) := by
      rw [Nat.mul_assoc, ← Nat.pow_add]
      congr 2
      omega
    rw [e1, e2]
def whoR (n N : Nat) : Ra := if N % 2 ^ n < 2 ^ (n - 1) then numRe false (N % 2 ^ n) 0 else numRe true (2 ^ n - N % 2 ^ n) 0
def floR (d p N : Nat) : Nat × Ra :=
  if N / 2 ^ (d - 1) % 2 ^ p = 2 ^ p - 1 then (0, N.testBit (d - 1 + p), 32767, 9223372036854775808 + N % 2 ^ (d - 1) * 2 ^ (64 - d))
  else if N / 2 ^ (d - 1) % 2 ^ p = 0 then ((if N % 2 ^ (d - 1) = 0 then 0 else 2), numRe (N.testBit (d - 1 + p)) (N % 2 ^ (d - 1)) (2 - ((2 ^ (p - 1) - 1 : Nat) : Int) - d))
  else (0, numRe (N.testBit (d - 1 + p)) (N % 2 ^ (d - 1) + 2 ^ (d - 1)) (((N / 2 ^ (d - 1) % 2 ^ p : Nat) : Int) - ((2 ^ (p - 1) - 1 : Nat) : Int) - d + 1))
def decN (N : Nat) : Nat → Nat
  | 0 => 0
  | i + 1 => 10 * decN N i + N / 2 ^ (4 * (17 - i)) % 16
theorem decN_succ (N i : Nat) : decN N (i + 1) = 10 * decN N i + N / 2 ^ (4 * (17 - i)) % 16 := rfl
theorem decN_le (N : Nat) : ∀ i, decN N i + 2 ≤ 2 * 10 ^ i := by
  intro i
  induction i with
  | zero => exact (by decide : 0 + 2 ≤ 2 * 10 ^ 0)
  | succ i ih =>
    rw [decN_succ, Nat.pow_succ]
    omega
def readS (fm N : Nat) : Nat × Ra :=
  if fm = 0 then (0, whoR 16 N) else if fm = 1 then (0, whoR 32 N) else if fm = 2 then (0, whoR 64 N)
  else if fm = 3 then floR 24 8 N else if fm = 4 then floR 53 11 N
  else if fm = 5 then (0, numRe (decide (128 ≤ N / 2 ^ 72 % 256)) (decN N 18) 0)
  else (0, decide (32768 ≤ N / 2 ^ 64 % 65536), ((N / 2 ^ 64 % 65536 % 32768 : Nat) : Int), N % 2 ^ 64)
theorem bN_succ (m : Nat → Nat) (f n : Nat) : bN m f (n + 1) = m f + 256 * bN m (f + 1) n := rfl
theorem bN_split (m : Nat → Nat) : ∀ a f b, bN m f (a + b) = bN m f a + 256 ^ a * bN m (f + a) b := by
  intro a
  induction a with
  | zero => intro f b; simp [bN]
  | succ a ih =>
    intro f b
    rw [show a + 1 + b = (a + b) + 1 by omega, bN_succ, bN_succ, ih (f + 1) b, Nat.pow_succ, show f + 1 + a = f + (a + 1) by omega, Nat.mul_add, Nat.mul_comm (256 ^ a) 256, Nat.mul_assoc, Nat.add_assoc]
theorem bN_sub {m : Nat → Nat} (hm : ∀ k, m k < 256) (f n : Nat) (h : f + n ≤ 10) : bN m f n = bN m 0 10 / 256 ^ f % 256 ^ n := by
  have e1 := bN_split m f 0 (10 - f)
  have e2 := bN_split m n f (10 - f - n)
  rw [show f + (10 - f) = 10 by omega, Nat.zero_add] at e1
  rw [show n + (10 - f - n) = 10 - f by omega] at e2
  have l1 := bN_lt hm f 0
  have l2 := bN_lt hm n f
  rw [e1, Nat.add_mul_div_left _ _ (Nat.pow_pos (by decide)), Nat.div_eq_of_lt l1, Nat.zero_add, e2, Nat.add_mul_mod_self_left, Nat.mod_eq_of_lt l2]
theorem putNumber_C {σ : St} {s : Bool} {v : Int64} {E : Int32} {e : Int} {a : Nat} (hE : E.toInt = e) (he : -2000 ≤ e ∧ e ≤ 2000) : frR a σ (f_Rd_putNumber σ s v E a) ∧ gI (f_Rd_putNumber σ s v E a) 7 3 = gI σ 7 3 ∧ RaIs (f_Rd_putNumber σ s v E a) a (numRe s (uN v) e) := by
  unfold f_Rd_putNumber numRe
  have z : (v = 0) ↔ uN v = 0 := uN_eq0
  simp only [z]
  by_cases c : uN v = 0
  · rw [if_pos c, if_pos c]
    exact ⟨frR_set _ _ _ _ _, rfl, RaIs_set (by decide) (by decide) (by decide)⟩
  · rw [if_neg c, if_neg c]
    obtain ⟨h3, u3, l1, l2⟩ := loadTimes_spec σ 8 v E (by omega)
    have fl := frS_szm σ 8 h3 0 false u3
    rw [l1]
    have ld : Loaded (szm σ 8 h3 0 false u3) 8 (uN v) e := by
      refine ⟨szm_9 _ _ _ _ _ _, szm_10 _ _ _ _ _ _, ?_⟩
      rw [szm_8, szm_11]
      rcases l2 with ⟨y1, y2, y3⟩ | ⟨y1, j, y2, y3, y4⟩
      · exact Or.inl ⟨uN_eq0.mp y1, y2, by rw [y3]; decide⟩
      · exact Or.inr ⟨y1, j, y2, y3, by rw [y4, hE]⟩
    have ex := exp_C ld ⟨by omega, by omega⟩
    rw [if_neg c] at ex
    have h8 : uN (gJ (szm σ 8 h3 0 false u3) 8 8) = uN v * 2 ^ (63 - (uN v).log2) ∧ (uN v).log2 < 64 := by
      rcases ld.2.2 with ⟨z1, z2, z3⟩ | ⟨z1, j, z2, z3, z4⟩
      · exact absurd z1 c
      · have b := uN_lt2 (gJ (szm σ 8 h3 0 false u3) 8 8)
        have z1' := z1
        rw [z3] at z1' b
        have lg := norm_log z2 z1' b
        have ej : 63 - (uN v).log2 = j := by omega
        rw [ej]
        exact ⟨z3, by omega⟩
    have t7 : gI (szm σ 8 h3 0 false u3) 7 3 = gI σ 7 3 := fl.1 7 3 (by decide)
    generalize szm σ 8 h3 0 false u3 = s1 at *
    have e16 : (16383 : Int32).toInt = 16383 := by decide
    refine ⟨frR_trans (frR_S fl) (frR_set _ _ _ _ _), t7, RaIs_set ?_ h8.1 ⟨by omega, by omega⟩⟩
    rw [i32_addT (by omega) (by omega), ex, e16]
theorem abs_L {a : Int64} {t : Int} (h : a.toInt = t) : uN (if 0 ≤ a then a else -a) = t.natAbs ∧ (if 0 ≤ a then false else true) = decide (t < 0) := by
  have c : (0 ≤ a) ↔ 0 ≤ t := by
    rw [Int64.le_iff_toInt_le, h]
    exact Iff.rfl
  have e := uN_int a
  have b := uN_lt a
  rw [h] at e
  simp only [c]
  by_cases q : 0 ≤ t
  · have n : ¬ t < 0 := by omega
    simp only [q, if_true, n, decide_false, and_true]
    split at e <;> omega
  · have n : t < 0 := by omega
    simp only [q, if_false, n, decide_true, and_true]
    rw [uN_negate]
    split at e <;> omega
theorem i32_cond (x : Int32) : x.toInt = if 2 * x.toBitVec.toNat < 4294967296 then (x.toBitVec.toNat : Int) else (x.toBitVec.toNat : Int) - 4294967296 := BitVec.toInt_eq_toNat_cond _
theorem js_cond (x : Int32) : (js x).toInt = if 2 * (x.toBitVec.toNat % 65536) < 65536 then ((x.toBitVec.toNat % 65536 : Nat) : Int) else ((x.toBitVec.toNat % 65536 : Nat) : Int) - 65536 := by
  have e1 : (js x).toInt = x.toInt16.toInt := Int16.toInt_toInt32 _
  have e2 : x.toInt16.toInt = if 2 * x.toInt16.toBitVec.toNat < 65536 then (x.toInt16.toBitVec.toNat : Int) else (x.toInt16.toBitVec.toNat : Int) - 65536 := BitVec.toInt_eq_toNat_cond _
  have e3 : x.toInt16.toBitVec.toNat = x.toBitVec.toNat % 65536 := by
    show (x.toBitVec.signExtend 16).toNat = _
    rw [BitVec.signExtend_eq_setWidth_of_le _ (by decide), BitVec.toNat_setWidth]
  rw [e1, e2, e3]
theorem whoR_i {n N : Nat} {t : Int} (hn : n = 16 ∨ n = 32 ∨ n = 64) (h : t = if N % 2 ^ n < 2 ^ (n - 1) then ((N % 2 ^ n : Nat) : Int) else ((N % 2 ^ n : Nat) : Int) - ((2 ^ n : Nat) : Int)) : whoR n N = numRe (decide (t < 0)) t.natAbs 0 := by
  have l : N % 2 ^ n < 2 ^ n := Nat.mod_lt _ (pow_pos2 n)
  unfold whoR
  generalize N % 2 ^ n = V at *
  by_cases c : V < 2 ^ (n - 1)
  · rw [if_pos c] at h ⊢
    have e1 : decide (t < 0) = false := decide_eq_false (by omega)
    have e2 : t.natAbs = V := by omega
    rw [e1, e2]
  · rw [if_neg c] at h ⊢
    have e1 : decide (t < 0) = true := decide_eq_true (by omega)
    have e2 : t.natAbs = 2 ^ n - V := by omega
    rw [e1, e2]
theorem readWhole_C {σ : St} {v : Int64} {t : Int} {a : Nat} (h : v.toInt = t) : frR a σ (f_Rd_readWhole σ v a) ∧ gI (f_Rd_readWhole σ v a) 7 3 = gI σ 7 3 ∧ RaIs (f_Rd_readWhole σ v a) a (numRe (decide (t < 0)) t.natAbs 0) := by
  obtain ⟨e1, e2⟩ := abs_L h
  unfold f_Rd_readWhole
  simp only [e2]
  rw [← e1]
  exact putNumber_C (by decide) (by decide)
theorem floN {d p N : Nat} (hdp : (d = 24 ∧ p = 8) ∨ (d = 53 ∧ p = 11)) (V : Nat) (hV : V = N % 2 ^ (d + p) * 2 ^ (64 - (d + p))) : V < 2 ^ 64 ∧ (9223372036854775808 ≤ V ↔ N.testBit (d - 1 + p) = true) ∧ V / 2 ^ (63 - p) % 2 ^ p = N / 2 ^ (d - 1) % 2 ^ p ∧ V * 2 ^ (p + 1) % 2 ^ 64 / 2 ^ 1 = N % 2 ^ (d - 1) * 2 ^ (64 - d) ∧ V / 2 ^ (63 - p) < 4294967296 := by
  rw [ntb]
  rcases hdp with ⟨rfl, rfl⟩ | ⟨rfl, rfl⟩
  · simp only [decide_eq_true_eq]
    simp only [show (24 + 8 : Nat) = 32 from rfl, show (24 - 1 + 8 : Nat) = 31 from rfl, show (63 - 8 : Nat) = 55 from rfl, show (24 - 1 : Nat) = 23 from rfl, show (64 - 24 : Nat) = 40 from rfl, show (8 + 1 : Nat) = 9 from rfl, show (64 - 32 : Nat) = 32 from rfl] at *
    refine ⟨?_, ?_, ?_, ?_, ?_⟩ <;> omega
  · simp only [decide_eq_true_eq]
    simp only [show (53 + 11 : Nat) = 64 from rfl, show (53 - 1 + 11 : Nat) = 63 from rfl, show (63 - 11 : Nat) = 52 from rfl, show (53 - 1 : Nat) = 52 from rfl, show (64 - 53 : Nat) = 11 from rfl, show (11 + 1 : Nat) = 12 from rfl, show (64 - 64 : Nat) = 0 from rfl] at *
    refine ⟨?_, ?_, ?_, ?_, ?_⟩ <;> omega
theorem floP {d p : Nat} (hdp : (d = 24 ∧ p = 8) ∨ (d = 53 ∧ p = 11)) : jshl 1 (nI p) - 1 = nI (2 ^ p - 1) ∧ jshr (nI (2 ^ p - 1)) 1 = nI (2 ^ (p - 1) - 1) ∧ (nI (2 ^ p - 1)).toBitVec.toNat = 2 ^ p - 1 ∧ 63 - nI p = nI (63 - p) ∧ nI p + 1 = nI (p + 1) ∧ p < 12 ∧ 24 ≤ d ∧ d ≤ 53 ∧ 2 ^ p ≤ 2048 ∧ 2 ^ (p - 1) - 1 ≤ 1023 ∧ 0 < p := by
  rcases hdp with ⟨rfl, rfl⟩ | ⟨rfl, rfl⟩ <;> decide
theorem readFloating_C {σ : St} {w t a d p N : Nat} {v : Int64} (hdp : (d = 24 ∧ p = 8) ∨ (d = 53 ∧ p = 11)) (hv : uN v = N % 2 ^ (d + p) * 2 ^ (64 - (d + p))) (ht : gI σ 7 3 = nI t) (htt : t < 64) : Outc σ (f_Rd_readFloating σ v (nI p) a) w t a (floR d p N) := by
  obtain ⟨n1, n2, n3, n4, n5⟩ := floN (N := N) hdp (uN v) hv
  obtain ⟨p1, p2, p3, p4, p5, p6, p7, p8, p9, p10, p11⟩ := floP hdp
  have sg : (if 0 ≤ v then false else true) = N.testBit (d - 1 + p) := by
    have : (0 ≤ v) ↔ ¬ N.testBit (d - 1 + p) = true := by
      rw [uN_nn, ← n2]
      omega
    simp only [this]
    cases N.testBit (d - 1 + p) <;> rfl
  have v2 : Int64.toInt32 (jlushr v (63 - nI p)) &&& nI (2 ^ p - 1) = nI (N / 2 ^ (d - 1) % 2 ^ p) := by
    rw [pk_and _ p p3, iN_of_l, p4, uN_jlushr v (63 - p) rfl (by omega), Nat.mod_eq_of_lt n5, n3]
  have v3 : uN (jlushr (jlshl v (nI p + 1)) 1) = N % 2 ^ (d - 1) * 2 ^ (64 - d) := by
    rw [uN_jlushr _ (y := 1) 1 rfl (by decide), p5, uN_jlshl v (p + 1) rfl (by omega)]
    exact n4
  have ql : N / 2 ^ (d - 1) % 2 ^ p < 2 ^ p := Nat.mod_lt _ (pow_pos2 p)
  have pl : N % 2 ^ (d - 1) < 2 ^ (d - 1) := Nat.mod_lt _ (pow_pos2 _)
  have pw : (2 : Nat) ^ (d - 1) * 2 ^ (64 - d) = 2 ^ 63 := by
    rw [← Nat.pow_add]
    congr 1
    omega
  have v3l : N % 2 ^ (d - 1) * 2 ^ (64 - d) < 2 ^ 63 := by
    rw [← pw]
    exact Nat.mul_lt_mul_of_pos_right pl (pow_pos2 _)
  have e63 : uN (-9223372036854775808) = 1 * 2 ^ 63 := by decide
  have hor : uN (-9223372036854775808 ||| jlushr (jlshl v (nI p + 1)) 1) = 9223372036854775808 + N % 2 ^ (d - 1) * 2 ^ (64 - d) := by
    rw [uN_orr, e63, v3, or_add v3l]
  have c1 : (nI (N / 2 ^ (d - 1) % 2 ^ p) = nI (2 ^ p - 1)) ↔ N / 2 ^ (d - 1) % 2 ^ p = 2 ^ p - 1 := nI_eq (by omega) (by omega)
  have c0 : (nI (N / 2 ^ (d - 1) % 2 ^ p) = 0) ↔ N / 2 ^ (d - 1) % 2 ^ p = 0 := nI_eq0 (by omega)
  have c3 : (jlushr (jlshl v (nI p + 1)) 1 = 0) ↔ N % 2 ^ (d - 1) = 0 := by
    rw [uN_eq0, v3]
    have := pow_pos2 (64 - d)
    constructor
    · intro q
      rcases Nat.mul_eq_zero.mp q with z | z
      · exact z
      · omega
    · intro q
      rw [q, Nat.zero_mul]
  unfold f_Rd_readFloating floR
  simp only [sg, p1, v2, c1, c0, c3]
  generalize jlushr (jlshl v (nI p + 1)) 1 = X at *
  generalize hq : N / 2 ^ (d - 1) % 2 ^ p = q at *
  generalize hpt : N % 2 ^ (d - 1) = pt at *
  generalize N.testBit (d - 1 + p) = s at *
  by_cases d1 : q = 2 ^ p - 1
  · rw [if_pos d1, if_pos d1]
    have o := Outc_set (σ := σ) (ρ := σ) (w := w) (t := t) (a4 := a) (T := 0) (m := s) (p := 32767) (f := -9223372036854775808 ||| X) (P := 32767) (frR_refl _ _) ht htt (by decide) (by decide) hor (by decide)
    have z : f_Ctl_tell σ (nI 0) = σ := tell_0 σ
    rw [z] at o
    exact o
  · rw [if_neg d1, if_neg d1]
    have e63i : (63 : Int32).toInt = 63 := by decide
    have eb : (nI (2 ^ (p - 1) - 1)).toInt = ((2 ^ (p - 1) - 1 : Nat) : Int) := nI_toInt (by omega)
    rw [p2]
    have el : ∀ (x : Int32) (y : Int), x.toInt = y → 0 ≤ y → y ≤ 2048 → (x - nI (2 ^ (p - 1) - 1) - 63).toInt = y - ((2 ^ (p - 1) - 1 : Nat) : Int) - 63 := fun x y hx h1 h2 => by
      have a1 : (x - nI (2 ^ (p - 1) - 1)).toInt = y - ((2 ^ (p - 1) - 1 : Nat) : Int) := by rw [i32_subT (by rw [hx, eb]; omega) (by rw [hx, eb]; omega), hx, eb]
      rw [i32_subT (by rw [a1, e63i]; omega) (by rw [a1, e63i]; omega), a1, e63i]
    have fin : ∀ (ρ : St) (T : Nat) (Y : Int64) (E : Int32) (e : Int) (M : Nat), frR a σ ρ → gI ρ 7 3 = nI (t ||| T) → T < 64 → E.toInt = e → -2000 ≤ e ∧ e ≤ 2000 → numRe s (uN Y) e = numRe s M (e + (64 - d : Nat)) → Outc σ (f_Rd_putNumber ρ s Y E a) w t a (T, numRe s M (e + (64 - d : Nat))) := fun ρ T Y E e M g1 g2 g3 g4 g5 g6 => by
      obtain ⟨k1, k2, k3⟩ := putNumber_C (σ := ρ) (s := s) (v := Y) (a := a) g4 g5
      refine ⟨frR_trans g1 k1, ?_, g3, fun _ => ?_⟩
      · rw [k2]
        exact g2
      · rw [g6] at k3
        exact k3
    have lgp : ∀ M, M < 2 ^ d → M.log2 + (64 - d) ≤ 63 := fun M hM => by
      by_cases z : M = 0
      · subst z
        have : Nat.log2 0 = 0 := by decide
        omega
      · have := (Nat.log2_lt z).mpr hM
        omega
    have p2d : (2 : Nat) ^ d = 2 * 2 ^ (d - 1) := by
      rw [Nat.mul_comm, ← Nat.pow_succ]
      congr 1
      omega
    by_cases d0 : q = 0
    · simp only [d0, if_true]
      have ex := el 1 1 (by decide) (by decide) (by decide)
      have sc := numRe_scale s pt (1 - ((2 ^ (p - 1) - 1 : Nat) : Int) - 63 + (64 - d : Nat)) (64 - d) (lgp pt (by omega))
      have e1 : (1 : Int) - ((2 ^ (p - 1) - 1 : Nat) : Int) - 63 + ((64 - d : Nat) : Int) - ((64 - d : Nat) : Int) = 1 - ((2 ^ (p - 1) - 1 : Nat) : Int) - 63 := by omega
      rw [e1, ← v3] at sc
      have e2 : (1 : Int) - ((2 ^ (p - 1) - 1 : Nat) : Int) - 63 + ((64 - d : Nat) : Int) = 2 - ((2 ^ (p - 1) - 1 : Nat) : Int) - d := by omega
      by_cases dz : pt = 0
      · rw [if_pos dz, if_pos dz]
        have := fin σ 0 X _ _ pt (frR_refl _ _) (by rw [Nat.or_zero]; exact ht) (by decide) ex ⟨by omega, by omega⟩ sc
        rw [e2] at this
        exact this
      · rw [if_neg dz, if_neg dz]
        have t2 : gI (f_Ctl_tell σ 2) 7 3 = nI (t ||| 2) := by rw [tell_7, ht, show (2 : Int32) = nI 2 from rfl, nI_or _ _ (by omega) (by decide)]
        have := fin (f_Ctl_tell σ 2) 2 X _ _ pt (frR_tell _ _ _) t2 (by decide) ex ⟨by omega, by omega⟩ sc
        rw [e2] at this
        exact this
    · simp only [d0, if_false, Bool.false_eq_true]
      have ex := el (nI q) q (nI_toInt (by omega)) (by omega) (by omega)
      have sc := numRe_scale s (pt + 2 ^ (d - 1)) ((q : Int) - ((2 ^ (p - 1) - 1 : Nat) : Int) - 63 + (64 - d : Nat)) (64 - d) (lgp _ (by omega))
      have e1 : (q : Int) - ((2 ^ (p - 1) - 1 : Nat) : Int) - 63 + ((64 - d : Nat) : Int) - ((64 - d : Nat) : Int) = (q : Int) - ((2 ^ (p - 1) - 1 : Nat) : Int) - 63 := by omega
      have e3 : (pt + 2 ^ (d - 1)) * 2 ^ (64 - d) = uN (-9223372036854775808 ||| X) := by
        rw [hor, Nat.add_mul, pw]
        omega
      rw [e1, e3] at sc
      have e2 : (q : Int) - ((2 ^ (p - 1) - 1 : Nat) : Int) - 63 + ((64 - d : Nat) : Int) = (q : Int) - ((2 ^ (p - 1) - 1 : Nat) : Int) - d + 1 := by omega
      have := fin σ 0 (-9223372036854775808 ||| X) _ _ (pt + 2 ^ (d - 1)) (frR_refl _ _) (by rw [Nat.or_zero]; exact ht) (by decide) ex ⟨by omega, by omega⟩ sc
      rw [e2] at this
      exact this
theorem uN_jlshr {x : Int64} (h : uN x < 9223372036854775808) {k : Nat} (hk : k < 64) : uN (jlshr x (nI k)) = uN x / 2 ^ k := by
  have h1 : (jlshr x (nI k)).toBitVec = x.toBitVec.sshiftRight k := by
    unfold jlshr
    rw [Int64.toBitVec_shiftRight, BitVec.sshiftRight', sh_c k hk]
  have m : x.toBitVec.msb = false := by
    rw [BitVec.msb_eq_decide]
    apply decide_eq_false
    show ¬ 2 ^ (64 - 1) ≤ uN x
    omega
  have h2 : uN (jlshr x (nI k)) = (x.toBitVec.sshiftRight k).toNat := by
    rw [← h1]
    rfl
  rw [h2, BitVec.sshiftRight_eq_of_msb_false m, BitVec.toNat_ushiftRight, Nat.shiftRight_eq_div_pow]
  rfl
theorem uN_and15 (x : Int64) : uN (x &&& 15) = uN x % 16 := by
  rw [uN_andd]
  exact Nat.and_two_pow_sub_one_eq_mod _ 4
theorem dig_C {σ : St} {m : Nat → Nat} (h : MB σ m) (hm : ∀ k, m k < 256) {i : Nat} (hi : i < 18) : uN (jlshr (f_Mem_bits σ (jshr (nI i) 1) 1) (4 * (nI i &&& 1)) &&& 15) = bN m 0 10 / 2 ^ (4 * i) % 16 := by
  have e1 : jshr (nI i) 1 = nI (i / 2) := jshr1N i (by omega)
  have m1 : (1 : Int32).toBitVec.toNat = 2 ^ 1 - 1 := by decide
  have e2 : nI i &&& 1 = nI (i % 2) := pk_andN (by omega) 1 m1
  have e3 : (4 : Int32) * nI (i % 2) = nI (4 * (i % 2)) := pk_mul 4 (i % 2)
  have b := bits_C h hm (i / 2) 1 (by decide) (by decide) (by omega)
  have b' : uN (f_Mem_bits σ (nI (i / 2)) 1) = m (i / 2) := by
    rw [show (1 : Int32) = nI 1 from rfl, b]
    simp [bN]
  have mk := bN_byte hm 10 0 (i / 2) (by omega)
  rw [Nat.zero_add] at mk
  have l := hm (i / 2)
  rw [e1, e2, e3, uN_and15, uN_jlshr (by rw [b']; omega) (by omega), b', ← mk, p256]
  rcases Nat.mod_two_eq_zero_or_one i with z | z
  · rw [z]
    have e4 : 4 * i = 8 * (i / 2) := by omega
    rw [e4]
    generalize bN m 0 10 / 2 ^ (8 * (i / 2)) = Y
    simp
  · rw [z]
    have e4 : 4 * i = 8 * (i / 2) + 4 := by omega
    rw [e4, Nat.pow_add, ← Nat.div_div_eq_div_mul]
    generalize bN m 0 10 / 2 ^ (8 * (i / 2)) = Y
    omega
theorem decs_C {σ : St} {m : Nat → Nat} (h : MB σ m) (hm : ∀ k, m k < 256) : uN (lpn (b_Rd_readDecimals_6 σ) (dnf 17) (17, 0)).2 = decN (bN m 0 10) 18 := by
  have em : (-1 : Int32).toInt = -1 := by decide
  refine lpn_P (b := b_Rd_readDecimals_6 σ) (fun i t => t.1.toInt = 17 - (i : Int) ∧ uN t.2 = decN (bN m 0 10) i) (fun y => uN y.2 = decN (bN m 0 10) 18) 18 ?_ ?_ ?_ ?_
  · intro i t hi ⟨t1, t2⟩
    obtain ⟨a, b⟩ := t
    simp only at t1 t2
    have ea : a = nI (17 - i) := by
      apply Int32.toInt_inj.mp
      rw [t1, nI_toInt (by omega)]
      omega
    have c2 : ¬ nI (17 - i) < 0 := nI_pos (by omega)
    refine ⟨(nI (17 - i) + (-1), b * 10 + (jlshr (f_Mem_bits σ (jshr (nI (17 - i)) 1) 1) (4 * (nI (17 - i) &&& 1)) &&& 15)), ?_, ?_, ?_⟩
    · unfold b_Rd_readDecimals_6
      simp only [ea, c2, if_false]
    · show (nI (17 - i) + (-1)).toInt = _
      rw [i32_addT (by rw [nI_toInt (by omega), em]; omega) (by rw [nI_toInt (by omega), em]; omega), nI_toInt (by omega), em]
      omega
    · show uN (b * 10 + (jlshr (f_Mem_bits σ (jshr (nI (17 - i)) 1) 1) (4 * (nI (17 - i) &&& 1)) &&& 15)) = _
      have le := decN_le (bN m 0 10) (i + 1)
      have p18 : 10 ^ (i + 1) ≤ 10 ^ 18 := Nat.pow_le_pow_right (by decide) (by omega)
      have e10 : uN 10 = 10 := rfl
      rw [uN_add, uN_mul, e10, t2, dig_C h hm (i := 17 - i) (by omega)]
      rw [decN_succ] at le ⊢
      omega
  · intro t ⟨t1, t2⟩
    obtain ⟨a, b⟩ := t
    simp only at t1 t2
    have c1 : a < 0 := Int32.lt_iff_toInt_lt.mpr (by rw [t1]; decide)
    refine ⟨(a, b), ?_, t2⟩
    unfold b_Rd_readDecimals_6
    simp only [c1, if_true]
  · decide
  · exact ⟨by decide, rfl⟩
theorem rd0 (σ : St) (a : Nat) : f_Rd_read σ (nI 0) a = f_Rd_readWhole σ (Int32.toInt64 (js (Int64.toInt32 (f_Mem_bits σ 0 2)))) a := by
  unfold f_Rd_read
  dsimp only
  rw [if_pos (show nI 0 = 0 by decide)]
theorem rd1 (σ : St) (a : Nat) : f_Rd_read σ (nI 1) a = f_Rd_readWhole σ (Int32.toInt64 (Int64.toInt32 (f_Mem_bits σ 0 4))) a := by
  unfold f_Rd_read
  dsimp only
  rw [if_neg (show ¬ nI 1 = 0 by decide), if_pos (show nI 1 = 1 by decide)]
theorem rd2 (σ : St) (a : Nat) : f_Rd_read σ (nI 2) a = f_Rd_readWhole σ (f_Mem_bits σ 0 8) a := by
  unfold f_Rd_read
  dsimp only
  rw [if_neg (show ¬ nI 2 = 0 by decide), if_neg (show ¬ nI 2 = 1 by decide), if_pos (show nI 2 = 2 by decide)]
theorem rd3 (σ : St) (a : Nat) : f_Rd_read σ (nI 3) a = f_Rd_readFloating σ (jlshl (f_Mem_bits σ 0 4) 32) 8 a := by
  unfold f_Rd_read
  dsimp only
  rw [if_neg (show ¬ nI 3 = 0 by decide), if_neg (show ¬ nI 3 = 1 by decide), if_neg (show ¬ nI 3 = 2 by decide), if_pos (show nI 3 = 3 by decide)]
theorem rd4 (σ : St) (a : Nat) : f_Rd_read σ (nI 4) a = f_Rd_readFloating σ (f_Mem_bits σ 0 8) 11 a := by
  unfold f_Rd_read
  dsimp only
  rw [if_neg (show ¬ nI 4 = 0 by decide), if_neg (show ¬ nI 4 = 1 by decide), if_neg (show ¬ nI 4 = 2 by decide), if_neg (show ¬ nI 4 = 3 by decide), if_pos (show nI 4 = 4 by decide)]
theorem rd5 (σ : St) (a : Nat) : f_Rd_read σ (nI 5) a = f_Rd_readDecimals σ a := by
  unfold f_Rd_read
  dsimp only
  rw [if_neg (show ¬ nI 5 = 0 by decide), if_neg (show ¬ nI 5 = 1 by decide), if_neg (show ¬ nI 5 = 2 by decide), if_neg (show ¬ nI 5 = 3 by decide), if_neg (show ¬ nI 5 = 4 by decide), if_pos (show nI 5 = 5 by decide)]
theorem rd6 (σ : St) (a : Nat) : f_Rd_read σ (nI 6) a = f_Rd_readPattern σ 0 a := by
  unfold f_Rd_read
  dsimp only
  rw [if_neg (show ¬ nI 6 = 0 by decide), if_neg (show ¬ nI 6 = 1 by decide), if_neg (show ¬ nI 6 = 2 by decide), if_neg (show ¬ nI 6 = 3 by decide), if_neg (show ¬ nI 6 = 4 by decide), if_neg (show ¬ nI 6 = 5 by decide)]
theorem rs0 (N : Nat) : readS 0 N = (0, whoR 16 N) := if_pos rfl
theorem rs1 (N : Nat) : readS 1 N = (0, whoR 32 N) := (if_neg (by decide)).trans (if_pos rfl)
theorem rs2 (N : Nat) : readS 2 N = (0, whoR 64 N) := (if_neg (by decide)).trans ((if_neg (by decide)).trans (if_pos rfl))
theorem rs3 (N : Nat) : readS 3 N = floR 24 8 N := (if_neg (by decide)).trans ((if_neg (by decide)).trans ((if_neg (by decide)).trans (if_pos rfl)))
theorem rs4 (N : Nat) : readS 4 N = floR 53 11 N := (if_neg (by decide)).trans ((if_neg (by decide)).trans ((if_neg (by decide)).trans ((if_neg (by decide)).trans (if_pos rfl))))
theorem rs5 (N : Nat) : readS 5 N = (0, numRe (decide (128 ≤ N / 2 ^ 72 % 256)) (decN N 18) 0) := (if_neg (by decide)).trans ((if_neg (by decide)).trans ((if_neg (by decide)).trans ((if_neg (by decide)).trans ((if_neg (by decide)).trans (if_pos rfl)))))
theorem rs6 (N : Nat) : readS 6 N = (0, decide (32768 ≤ N / 2 ^ 64 % 65536), ((N / 2 ^ 64 % 65536 % 32768 : Nat) : Int), N % 2 ^ 64) := (if_neg (by decide)).trans ((if_neg (by decide)).trans ((if_neg (by decide)).trans ((if_neg (by decide)).trans ((if_neg (by decide)).trans (if_neg (by decide))))))
theorem read_C {σ : St} {w t a fm : Nat} {m : Nat → Nat} (h : MB σ m) (hm : ∀ k, m k < 256) (hfm : fm ≤ 6) (ht : gI σ 7 3 = nI t) (htt : t < 64) : Outc σ (f_Rd_read σ (nI fm) a) w t a (readS fm (bN m 0 10)) := by
  have b2 := bits_C h hm 0 2 (by decide) (by decide) (by decide)
  have b4 := bits_C h hm 0 4 (by decide) (by decide) (by decide)
  have b8 := bits_C h hm 0 8 (by decide) (by decide) (by decide)
  have b82 := bits_C h hm 8 2 (by decide) (by decide) (by decide)
  have b91 := bits_C h hm 9 1 (by decide) (by decide) (by decide)
  rw [bN_sub hm 0 2 (by decide)] at b2
  rw [bN_sub hm 0 4 (by decide)] at b4
  rw [bN_sub hm 0 8 (by decide)] at b8
  rw [bN_sub hm 8 2 (by decide)] at b82
  rw [bN_sub hm 9 1 (by decide)] at b91
  have b2' : uN (f_Mem_bits σ 0 2) = bN m 0 10 / 256 ^ 0 % 256 ^ 2 := b2
  have b4' : uN (f_Mem_bits σ 0 4) = bN m 0 10 / 256 ^ 0 % 256 ^ 4 := b4
  have b8' : uN (f_Mem_bits σ 0 8) = bN m 0 10 / 256 ^ 0 % 256 ^ 8 := b8
  have b82' : uN (f_Mem_bits σ 8 2) = bN m 0 10 / 256 ^ 8 % 256 ^ 2 := b82
  have b91' : uN (f_Mem_bits σ 9 1) = bN m 0 10 / 256 ^ 9 % 256 ^ 1 := b91
  have dc := decs_C h hm
  generalize bN m 0 10 = N at *
  have out : ∀ (ρ : St) (R : Ra), (frR a σ ρ ∧ gI ρ 7 3 = gI σ 7 3 ∧ RaIs ρ a R) → Outc σ ρ w t a (0, R) := fun ρ R g => by
    refine ⟨g.1, ?_, (by decide : (0 : Nat) < 64), fun _ => g.2.2⟩
    show gI ρ 7 3 = nI (t ||| 0)
    rw [g.2.1, ht, Nat.or_zero]
  rcases (show fm = 0 ∨ fm = 1 ∨ fm = 2 ∨ fm = 3 ∨ fm = 4 ∨ fm = 5 ∨ fm = 6 by omega) with rfl | rfl | rfl | rfl | rfl | rfl | rfl
  · have k : (js (Int64.toInt32 (f_Mem_bits σ 0 2))).toInt64.toInt = if N % 2 ^ 16 < 2 ^ (16 - 1) then ((N % 2 ^ 16 : Nat) : Int) else ((N % 2 ^ 16 : Nat) : Int) - ((2 ^ 16 : Nat) : Int) := by
      rw [Int32.toInt_toInt64, js_cond, iN_of_l, b2']
      split <;> split <;> omega
    have THIS := out _ _ (readWhole_C (σ := σ) (a := a) k)
    rw [rd0, rs0, whoR_i (n := 16) (Or.inl rfl) rfl]
    exact THIS
  · have k : (Int64.toInt32 (f_Mem_bits σ 0 4)).toInt64.toInt = if N % 2 ^ 32 < 2 ^ (32 - 1) then ((N % 2 ^ 32 : Nat) : Int) else ((N % 2 ^ 32 : Nat) : Int) - ((2 ^ 32 : Nat) : Int) := by
      rw [Int32.toInt_toInt64, i32_cond, iN_of_l, b4']
      split <;> split <;> omega
    have THIS := out _ _ (readWhole_C (σ := σ) (a := a) k)
    rw [rd1, rs1, whoR_i (n := 32) (Or.inr (Or.inl rfl)) rfl]
    exact THIS
  · have k : (f_Mem_bits σ 0 8).toInt = if N % 2 ^ 64 < 2 ^ (64 - 1) then ((N % 2 ^ 64 : Nat) : Int) else ((N % 2 ^ 64 : Nat) : Int) - ((2 ^ 64 : Nat) : Int) := by
      rw [uN_int, b8']
      split <;> split <;> omega
    have THIS := out _ _ (readWhole_C (σ := σ) (a := a) k)
    rw [rd2, rs2, whoR_i (n := 64) (Or.inr (Or.inr rfl)) rfl]
    exact THIS
  · have e : uN (jlshl (f_Mem_bits σ 0 4) 32) = N % 2 ^ (24 + 8) * 2 ^ (64 - (24 + 8)) := by
      rw [uN_jlshl _ (y := 32) 32 rfl (by decide), b4']
      simp only [show (24 + 8 : Nat) = 32 from rfl, show (64 - 32 : Nat) = 32 from rfl]
      omega
    rw [rd3, rs3]
    exact readFloating_C (w := w) (a := a) (Or.inl ⟨rfl, rfl⟩) e ht htt
  · have e : uN (f_Mem_bits σ 0 8) = N % 2 ^ (53 + 11) * 2 ^ (64 - (53 + 11)) := by
      rw [b8']
      simp only [show (53 + 11 : Nat) = 64 from rfl, show (64 - 64 : Nat) = 0 from rfl]
      omega
    rw [rd4, rs4]
    exact readFloating_C (w := w) (a := a) (Or.inr ⟨rfl, rfl⟩) e ht htt
  · have c : (f_Mem_bits σ 9 1 < 128) ↔ ¬ 128 ≤ N / 2 ^ 72 % 256 := by
      have e := uN_int (f_Mem_bits σ 9 1)
      have l : (128 : Int64).toInt = 128 := by decide
      rw [b91'] at e
      rw [Int64.lt_iff_toInt_lt, e, l]
      split <;> omega
    have sg : (if f_Mem_bits σ 9 1 < 128 then false else true) = decide (128 ≤ N / 2 ^ 72 % 256) := by
      simp only [c]
      by_cases q : 128 ≤ N / 2 ^ 72 % 256 <;> simp [q]
    have k := putNumber_C (σ := σ) (s := decide (128 ≤ N / 2 ^ 72 % 256)) (v := (lpn (b_Rd_readDecimals_6 σ) (dnf 17) (17, 0)).2) (E := 0) (a := a) (e := 0) (by decide) (by decide)
    rw [dc] at k
    rw [rd5, rs5]
    unfold f_Rd_readDecimals
    simp only [sg]
    exact out _ _ k
  · rw [rd6, rs6]
    unfold f_Rd_readPattern
    have e8 : (0 : Int32) + 8 = 8 := by decide
    have v1 : Int64.toInt32 (f_Mem_bits σ 8 2) = nI (N / 2 ^ 64 % 65536) := by
      rw [i32_of_l (by rw [b82']; omega), b82']
    have m15 : (32767 : Int32).toBitVec.toNat = 2 ^ 15 - 1 := by decide
    have c : (nI (N / 2 ^ 64 % 65536) < 32768) ↔ ¬ 32768 ≤ N / 2 ^ 64 % 65536 := by
      rw [show (32768 : Int32) = nI 32768 from rfl, nI_ltI (by omega) (by decide)]
      omega
    have sg : (if nI (N / 2 ^ 64 % 65536) < 32768 then false else true) = decide (32768 ≤ N / 2 ^ 64 % 65536) := by
      simp only [c]
      by_cases q : 32768 ≤ N / 2 ^ 64 % 65536 <;> simp [q]
    simp only [e8, v1, sg, pk_andN (show N / 2 ^ 64 % 65536 < 2 ^ 32 by omega) 15 m15]
    refine out _ _ ⟨frR_set _ _ _ _ _, rfl, RaIs_set ?_ ?_ ?_⟩
    · rw [nI_toInt (by omega)]
    · rw [b8']
      omega
    · omega
