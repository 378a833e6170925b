/-! the reference's quotient -/
theorem ldb_num {D r v t4 : Int64} {b : Nat} (hr : uN r < uN D) (hb : b ≤ 1) (ht : uN t4 = b) (ev : v = 2 * r + t4) : (uN r < 9223372036854775808 ∧ uN v < uN D ∧ uN v = 2 * uN r + b) ∨ ((¬ uN r < 9223372036854775808 ∨ ¬ uN v < uN D) ∧ uN (v - D) + uN D = 2 * uN r + b ∧ uN (v - D) < uN D) := by
  have bD := uN_lt D
  have br := uN_lt r
  have e2 : uN v = (2 * uN r % 18446744073709551616 + b) % 18446744073709551616 := by
    rw [ev, uN_add, uN_mul, ht]
    rfl
  have e3 := uN_sub v D
  omega
theorem rowN_of_bits {r : Nat → Bool} {n Q : Nat} (h : ∀ j, j < n → r j = Q.testBit j) (hQ : Q < 2 ^ n) : rowN r n = Q := by
  apply Nat.eq_of_testBit_eq
  intro i
  rw [rowN_tb]
  by_cases c : i < n
  · simp [c, h i c]
  · have : Q.testBit i = false := Nat.testBit_lt_two_pow (Nat.lt_of_lt_of_le hQ (Nat.pow_le_pow_right (by decide) (by omega)))
    simp [c, this]
theorem tb_2Q (Q : Nat) (f : Bool) (j : Nat) : (2 * Q + f.toNat).testBit (j + 1) = Q.testBit j ∧ (2 * Q + f.toNat).testBit 0 = f := by
  constructor
  · rw [Nat.testBit_succ]
    congr 1
    have := Bool.toNat_le f
    omega
  · rw [Nat.testBit_zero]
    cases f <;> simp <;> omega
theorem rowst_st (τ : St) (n lo : Int32) (m : Bool) (r : Nat → Bool) (i : Nat) (v : Bool) : sZ (rowst τ n lo m r) 109 i v = rowst τ n lo m (fun o => if o = i then v else r o) := setRow_st _ _ _ _
theorem rowst_more (τ : St) (n lo : Int32) (m : Bool) (r : Nat → Bool) (m1 : Bool) : sZ (rowst τ n lo m r) 20 35 m1 = rowst τ n lo m1 r := by
  unfold rowst
  apply St_ext <;> intro k x
  · rfl
  · rfl
  · simp only [gZ_sZ, setRow_Z]
    grind
theorem quo_st (τ : St) (lo : Int32) (r : Nat → Bool) (K : Int32) (k : Nat) (c0 : ¬ K < 0) (jK : jat K = k) (left t4 v D f0 : Int64) (h0 : gJ τ 108 0 = f0) (h1 : gJ τ 108 1 = D) (e4 : (if K < 136 then (0 : Int64) else jlshr f0 (K - 136) &&& 1) = t4) (ev : 2 * left + t4 = v) (n : Int32) :
    ((0 ≤ left ∧ f_MO_below v D = true) → b_MO_quotient_45 (K, left, rowst τ n lo false r) = (true, (K + (-1), v, rowst τ n lo false (fun o => if o = k then false else r o)))) ∧
    ((¬ 0 ≤ left ∨ f_MO_below v D = false) → b_MO_quotient_45 (K, left, rowst τ n lo false r) = (true, (K + (-1), v - D, rowst τ n lo false (fun o => if o = k then true else r o)))) := by
  have j0 : jat 0 = 0 := by decide
  have j1 : jat 1 = 1 := by decide
  have g0 : gJ (rowst τ n lo false r) 108 (jat 0) = f0 := by rw [j0, ← h0]; rfl
  have g1 : gJ (rowst τ n lo false r) 108 (jat 1) = D := by rw [j1, ← h1]; rfl
  have st := fun v => rowst_st τ n lo false r k v
  constructor
  · intro ⟨o1, o2⟩
    unfold b_MO_quotient_45
    simp only [c0, if_false, o1, if_true, g0, g1, e4, ev, o2, Bool.false_eq_true, jK, st]
  · intro q
    unfold b_MO_quotient_45
    by_cases o1 : 0 ≤ left
    · rcases q with q | o2
      · exact absurd o1 q
      · simp only [c0, if_false, o1, if_true, g0, g1, e4, ev, o2, Bool.false_eq_true, jK, st]
    · simp only [c0, if_false, o1, if_true, g0, g1, e4, ev, jK, st]
theorem quo_bit {f : Int64} {k : Nat} (hk : k < 200) : uN (if nI k < 136 then (0 : Int64) else jlshr f (nI k - 136) &&& 1) = ((uN f * 2 ^ 136).testBit k).toNat := by
  rw [mul_tb]
  by_cases c : k < 136
  · have c1 : nI k < 136 := nI_lt (b := 136) c (by decide)
    have c2 : ¬ 136 ≤ k := by omega
    rw [if_pos c1, decide_eq_false c2]
    rfl
  · have c1 : ¬ nI k < 136 := nI_nlt (b := 136) (by omega) (by omega)
    have c2 : 136 ≤ k := by omega
    have e1 : nI k - 136 = nI (k - 136) := pk_sub (b := 136) c2
    rw [if_neg c1, e1, uN_bitb _ (k - 136) rfl (by omega), decide_eq_true c2, Bool.true_and, ntb]
    have := Nat.mod_two_eq_zero_or_one (uN f / 2 ^ (k - 136))
    rcases this with q | q <;> rw [q] <;> rfl
theorem quo_body (τ : St) (lo : Int32) (r : Nat → Bool) (k : Nat) (hk : k < 200) (left : Int64) (hD : uN left < uN (gJ τ 108 1)) :
    ∃ (fits : Bool) (l1 : Int64), b_MO_quotient_45 (nI k, left, rowst τ (nI 200) lo false r) = (true, (nI k + (-1), l1, rowst τ (nI 200) lo false (fun o => if o = k then fits else r o))) ∧ uN l1 + fits.toNat * uN (gJ τ 108 1) = 2 * uN left + ((uN (gJ τ 108 0) * 2 ^ 136).testBit k).toNat ∧ uN l1 < uN (gJ τ 108 1) := by
  have c0 : ¬ nI k < 0 := nI_pos (by omega)
  have u4 := quo_bit (f := gJ τ 108 0) hk
  obtain ⟨s1, s2⟩ := quo_st τ lo r (nI k) k c0 (jat_nI (by omega)) left _ _ _ _ rfl rfl rfl rfl (nI 200)
  have hb : ((uN (gJ τ 108 0) * 2 ^ 136).testBit k).toNat ≤ 1 := Bool.toNat_le _
  rcases ldb_num hD hb u4 rfl with ⟨n1, n2, n3⟩ | ⟨n1, n2, n3⟩
  · refine ⟨false, _, s1 ⟨uN_nn.mpr n1, ?_⟩, ?_, n2⟩
    · rw [below_eq]
      exact decide_eq_true n2
    · rw [n3, Bool.toNat_false, Nat.zero_mul, Nat.add_zero]
  · refine ⟨true, _, s2 ?_, ?_, n3⟩
    · rcases n1 with q | q
      · exact Or.inl (fun z => q (uN_nn.mp z))
      · right
        rw [below_eq]
        exact decide_eq_false q
    · rw [Bool.toNat_true, Nat.one_mul]
      exact n2
theorem quo_M {τ : St} {A B : Re} {w t0 : Nat} {sg : Bool} (hA : OpIs τ 0 A.1 A.2.1 A.2.2) (hB : OpIs τ 1 B.1 B.2.1 B.2.2) (pa : A.2.1 < 32767) (hFb : B.2.2 ≠ 0) (hwd : gI τ 16 35 = nI w) (hw : w < 65536) (ht : gI τ 21 35 = nI t0) :
    Made τ (f_MO_quotient τ sg) t0 sg (SPz w (digitsOf w) sg (A.2.2 * 2 ^ 136 / B.2.2) (decide (A.2.2 * 2 ^ 136 % B.2.2 ≠ 0)) (unitN A.2.1 - unitN B.2.1 - 136)) := by
  have j0 : jat 0 = 0 := by decide
  have u0 := unit_M (τ := τ) (a := 0) (P := A.2.1) hA.2.1 hA.2.2.1
  have u1 := unit_M (τ := τ) (a := 1) (P := B.2.1) hB.2.1 hB.2.2.1
  have r0 := unitN_rng hA.2.2.1
  have r1 := unitN_rng hB.2.2.1
  have fa := uN_lt2 (gJ τ 108 0)
  have fb := uN_lt2 (gJ τ 108 1)
  rw [hA.2.2.2] at fa
  rw [hB.2.2.2] at fb
  have n0 : f_MO_isNothing τ 0 = decide (A.2.2 = 0) := nothing_M (a := 0) hA.2.1 hA.2.2.2 pa
  unfold f_MO_quotient
  rw [n0]
  by_cases za : A.2.2 = 0
  · rw [decide_eq_true za]
    simp only [if_true]
    rw [za, Nat.zero_mul, Nat.zero_div]
    have id : τ = rowst τ (gI τ 18 35) (gI τ 19 35) (gZ τ 20 35) (gZ τ 109) := by
      unfold rowst
      apply St_ext <;> intro k x <;> simp only [setRow_I, setRow_J, setRow_Z, gI_sI, gI_sZ, gJ_sI, gJ_sZ, gZ_sI, gZ_sZ] <;> grind
    have md := Made_zero (τ := τ) (n := gI τ 18 35) (lo := gI τ 19 35) (m := gZ τ 20 35) (r := gZ τ 109) (w := w) (d := digitsOf w) (sg := sg) (s := decide (0 % B.2.2 ≠ 0)) (e := unitN A.2.1 - unitN B.2.1 - 136) ht
    rw [← id] at md
    exact md
  · rw [decide_eq_false za]
    simp only [Bool.false_eq_true, if_false]
    have e136 : (136 : Int32).toInt = 136 := by decide
    have lo0 : (f_MO_unitOf τ 0 - f_MO_unitOf τ 1).toInt = unitN A.2.1 - unitN B.2.1 := by rw [i32_subT (by omega) (by omega), u0, u1]
    have lo1 : (f_MO_unitOf τ 0 - f_MO_unitOf τ 1 - 136).toInt = unitN A.2.1 - unitN B.2.1 - 136 := by rw [i32_subT (by omega) (by omega), lo0, e136]
    generalize hlo : f_MO_unitOf τ 0 - f_MO_unitOf τ 1 - 136 = lo at *
    clear lo0 e136 u0 u1
    rw [← lo1]
    obtain ⟨rr, hrr⟩ : ∃ rr : Nat → Bool, rr = (fun o => if o < 200 then false else gZ τ 109 o) := ⟨_, rfl⟩
    have n200 : (200 : Int32) = nI 200 := rfl
    have em : f_MO_empty τ 200 lo = rowst τ (nI 200) lo false rr := by rw [hrr, n200]; exact empty_M τ 200 (by omega) lo
    have u00 : uN 0 = 0 := rfl
    have X0 : A.2.2 * 2 ^ 136 < 2 ^ 200 := by
      have : (2 : Nat) ^ 200 = 2 ^ 64 * 2 ^ 136 := by rw [← Nat.pow_add]
      rw [this]
      exact Nat.mul_lt_mul_of_pos_right fa (pow_pos2 136)
    generalize hX : A.2.2 * 2 ^ 136 = X at *
    obtain ⟨l1, r, Q, x1, hl, hq, hlt, hbits, hQ⟩ : ∃ (l1 : Int64) (r : Nat → Bool) (Q : Nat) (x1 : Int32), lpn b_MO_quotient_45 (dnf 199) (199, 0, rowst τ (nI 200) lo false rr) = (x1, l1, rowst τ (nI 200) lo false r) ∧ Q * B.2.2 + uN l1 = X ∧ uN l1 < B.2.2 ∧ (∀ j, j < 200 → r j = Q.testBit j) ∧ Q < 2 ^ 200 := by
      refine lpn_P (b := b_MO_quotient_45) (fun i t => ∃ (l1 : Int64) (r : Nat → Bool) (Q : Nat), t = (nI (200 - i) + (-1), l1, rowst τ (nI 200) lo false r) ∧ Q * B.2.2 + uN l1 = X / 2 ^ (200 - i) ∧ uN l1 < B.2.2 ∧ (∀ j, 200 - i ≤ j → j < 200 → r j = Q.testBit (j - (200 - i))) ∧ Q < 2 ^ i) (fun y => ∃ (l1 : Int64) (r : Nat → Bool) (Q : Nat) (x1 : Int32), y = (x1, l1, rowst τ (nI 200) lo false r) ∧ Q * B.2.2 + uN l1 = X ∧ uN l1 < B.2.2 ∧ (∀ j, j < 200 → r j = Q.testBit j) ∧ Q < 2 ^ 200) 200 ?_ ?_ (by decide) ⟨0, rr, 0, rfl, ?_, by rw [u00]; omega, fun j h1 h2 => by omega, by decide⟩
      · intro i t hi ⟨l1, r, Q, et, e1, e2, e3, e4⟩
        subst et
        obtain ⟨k, hk⟩ : ∃ k, 200 - i = k + 1 := ⟨199 - i, by omega⟩
        have ek : nI (200 - i) + (-1) = nI k := by rw [hk]; exact pk_m1 k
        have ei : 200 - (i + 1) = k := by omega
        obtain ⟨fits, l2, d1, d2, d3⟩ := quo_body τ lo r k (by omega) l1 (by rw [hB.2.2.2]; exact e2)
        rw [hB.2.2.2] at d2 d3
        rw [hA.2.2.2, hX] at d2
        rw [ek]
        refine ⟨_, d1, l2, _, 2 * Q + fits.toNat, by rw [ei], ?_, d3, ?_, ?_⟩
        · rw [ei, div_succ X k, ← hk, ← e1]
          generalize fits.toNat = f at *
          have : (2 * Q + f) * B.2.2 = 2 * (Q * B.2.2) + f * B.2.2 := by grind
          rw [this]
          omega
        · intro j h1 h2
          rw [ei] at h1 ⊢
          by_cases c : j = k
          · subst c
            simp only [if_true]
            have : j - j = 0 := by omega
            rw [this]
            exact (tb_2Q Q fits 0).2.symm
          · simp only [c, if_false]
            rw [e3 j (by omega) h2]
            have : j - k = (j - (200 - i)) + 1 := by omega
            rw [this]
            exact (tb_2Q Q fits _).1.symm
        · have := Bool.toNat_le fits
          have p : (2 : Nat) ^ (i + 1) = 2 ^ i * 2 := Nat.pow_succ _ _
          omega
      · intro t ⟨l1, r, Q, et, e1, e2, e3, e4⟩
        subst et
        have ek : nI (200 - 200) + (-1) = (-1 : Int32) := by decide
        refine ⟨(-1, l1, rowst τ (nI 200) lo false r), ?_, l1, r, Q, -1, rfl, ?_, e2, fun j hj => ?_, e4⟩
        · rw [ek]
          unfold b_MO_quotient_45
          have : (-1 : Int32) < 0 := by decide
          simp only [this, if_true]
        · have : X / 2 ^ (200 - 200) = X := by simp
          rw [← this]
          exact e1
        · have := e3 j (by omega) hj
          have e : j - (200 - 200) = j := by omega
          rw [e] at this
          exact this
      · show 0 * B.2.2 + uN 0 = X / 2 ^ 200
        rw [u00, Nat.div_eq_of_lt X0]
        simp
    obtain ⟨q1, q2⟩ := quo_eq hq hlt
    have hr := rowN_of_bits hbits hQ
    have m1 : (if l1 = 0 then false else true) = decide (X % B.2.2 ≠ 0) := by
      rw [← q2]
      simp only [uN_eq0]
      by_cases c : uN l1 = 0 <;> simp [c]
    simp only [em, hl, m1, rowst_more]
    rw [← q1]
    have Q1 : Q ≠ 0 := fun z => by
      rw [z, Nat.zero_mul, Nat.zero_add] at hq
      have : 1 * 2 ^ 136 ≤ A.2.2 * 2 ^ 136 := Nat.mul_le_mul_right _ (by omega)
      rw [hX] at this
      omega
    have lg := log2_le hQ Q1
    exact Made_make (by decide) hr Q1 hwd hw ⟨by omega, by omega⟩ ⟨by omega, by omega⟩ ht
