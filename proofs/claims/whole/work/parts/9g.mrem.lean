/-! the reference's remainder -/
theorem sI_id (s : St) (k o : Nat) : sI s k o (gI s k o) = s := by
  apply St_ext <;> intro k' x
  · rw [gI_sI]
    split
    · split
      · subst_vars
        rfl
      · rfl
    · rfl
  · rfl
  · rfl
theorem SOut_make2 {s x : St} {w D : Nat} {f : Int64} {U : Int32} {u : Int} {m : Bool} {R : Nat × Int × Nat} (hf : frT s x) (hwd : gI x 27 42 = nI w) (hw : w < 65536) (ht : gI x 28 42 = nI D) (hD : D < 64) (he : endsN w D = false) (hU : U.toInt = u) (hub : -37000 ≤ u ∧ u ≤ 37000) (hR : R = SPz w 64 m (uN f) false u) : SOut s (f_MS_make x m f U) w (D ||| R.1, m, R.2) ∧ gI (f_MS_make x m f U) 30 42 = gI x 30 42 ∧ gZ (f_MS_make x m f U) 31 42 = gZ x 31 42 := by
  refine ⟨SOut_make hf hwd hw ht hD he hU hub hR, ?_⟩
  obtain ⟨b, pw, F, c1, c2, c3⟩ := msmake_M hwd hw ht hD hU hub R hR
  rw [c1]
  unfold mss
  constructor
  · simp [f_MS_answer, gI_sI, gI_sJ, gI_sZ]
  · simp [f_MS_answer, gZ_sI, gZ_sJ, gZ_sZ]
/-- one digit more of the number that is divided -/
theorem top_step (X z i : Nat) (hi : i < 64 + z) : X * 2 ^ z / 2 ^ (64 + z - (i + 1)) = 2 * (X * 2 ^ z / 2 ^ (64 + z - i)) + (if 64 ≤ i then 0 else X / 2 ^ (63 - i) % 2) := by
  have e : 64 + z - i = 64 + z - (i + 1) + 1 := by omega
  have h1 : X * 2 ^ z / 2 ^ (64 + z - i) = X * 2 ^ z / 2 ^ (64 + z - (i + 1)) / 2 := by
    rw [e, Nat.pow_succ, Nat.div_div_eq_div_mul]
  have h2 : X * 2 ^ z / 2 ^ (64 + z - (i + 1)) % 2 = (if 64 ≤ i then 0 else X / 2 ^ (63 - i) % 2) := by
    by_cases c : 64 ≤ i
    · rw [if_pos c]
      obtain ⟨d, hd⟩ : ∃ d : Nat, z = d + 1 + (64 + z - (i + 1)) := ⟨i - 64, by omega⟩
      have : X * 2 ^ z / 2 ^ (64 + z - (i + 1)) = X * 2 ^ (d + 1) := by
        generalize 64 + z - (i + 1) = y at *
        rw [hd, mul_pow_div]
      rw [this, Nat.pow_succ, ← Nat.mul_assoc]
      omega
    · rw [if_neg c]
      have e2 : 64 + z - (i + 1) = 63 - i + z := by omega
      rw [e2, mul_pow_div2]
  omega
theorem tn1' (b : Bool) : b.toNat ≤ 1 := by cases b <;> decide
theorem div_loop {x Y : Int64} {d : Int32} {st s5 : St} {z : Nat} (hz : z ≤ 63) (hY : 2 ^ 63 ≤ uN Y) (g34 : gJ s5 34 42 = Y) (g30 : gI s5 30 42 = 0) : ∃ (k : Int32) (L : Int64), lpn (b_MS_divide_121 (x, d, st) (nI z)) (upf (64 + nI z) 0) (0, 0, s5) = (k, L, sI s5 30 42 (nI (uN x * 2 ^ z / uN Y % 8))) ∧ uN L = uN x * 2 ^ z % uN Y := by
  have bx := uN_lt2 x
  have bY := uN_lt2 Y
  have e64 : (64 : Int32) + nI z = nI (64 + z) := nI_add 64 z
  refine lpn_P (b := b_MS_divide_121 (x, d, st) (nI z)) (fun i t => ∃ L : Int64, t = (nI i, L, sI s5 30 42 (nI (uN x * 2 ^ z / 2 ^ (64 + z - i) / uN Y % 8))) ∧ uN L = uN x * 2 ^ z / 2 ^ (64 + z - i) % uN Y) (fun y => ∃ (k : Int32) (L : Int64), y = (k, L, sI s5 30 42 (nI (uN x * 2 ^ z / uN Y % 8))) ∧ uN L = uN x * 2 ^ z % uN Y) (64 + z) ?_ ?_ ?_ ?_
  · intro i t hi ⟨L, et, hL⟩
    subst et
    have c1 : ¬ nI (64 + z) ≤ nI i := nI_ge (by omega) (by omega)
    have st := top_step (uN x) z i hi
    generalize hM : uN x * 2 ^ z / 2 ^ (64 + z - i) = M at *
    generalize hM' : uN x * 2 ^ z / 2 ^ (64 + z - (i + 1)) = M' at *
    obtain ⟨bit, hbit, b1⟩ : ∃ bit : Nat, bit = (if 64 ≤ i then 0 else uN x / 2 ^ (63 - i) % 2) ∧ bit ≤ 1 := ⟨_, rfl, by split <;> omega⟩
    rw [← hbit] at st
    have c64 : ((64 : Int32) ≤ nI i) ↔ 64 ≤ i := nI_leI (a := 64) (by decide) (by omega)
    have t7 : uN (if (64 : Int32) ≤ nI i then (0 : Int64) else if 0 ≤ jlshl x (nI i) then 0 else 1) = bit := by
      simp only [c64]
      rw [hbit]
      by_cases c : 64 ≤ i
      · rw [if_pos c, if_pos c]
        rfl
      · rw [if_neg c, if_neg c]
        simp only [shl_nn x (show i < 64 by omega)]
        rcases Nat.mod_two_eq_zero_or_one (uN x / 2 ^ (63 - i)) with q | q <;> rw [q] <;> rfl
    generalize hT7 : (if (64 : Int32) ≤ nI i then (0 : Int64) else if 0 ≤ jlshl x (nI i) then 0 else 1) = T7 at *
    have rl : M % uN Y < uN Y := Nat.mod_lt _ (by omega)
    have v4 : uN (2 * L + T7) = (2 * uN L + bit) % 18446744073709551616 := by
      rw [uN_add, dbl_two, t7]
      omega
    have g34' : gJ (sI s5 30 42 (nI (M / uN Y % 8))) 34 42 = Y := g34
    have g30' : gI (sI s5 30 42 (nI (M / uN Y % 8))) 30 42 = nI (M / uN Y % 8) := by simp [gI_sI]
    have nn : (0 ≤ L) ↔ uN L < 9223372036854775808 := uN_nn
    have one : (if (if 0 ≤ L then false else true) = true then true else if f_MS_lessSize (2 * L + T7) Y = true then false else true) = decide (uN Y ≤ 2 * uN L + bit) := by
      rw [lessSize_eq, v4]
      simp only [nn]
      by_cases q : uN L < 9223372036854775808
      · have e : (2 * uN L + bit) % 18446744073709551616 = 2 * uN L + bit := Nat.mod_eq_of_lt (by omega)
        rw [e]
        by_cases p : 2 * uN L + bit < uN Y
        · have : ¬ uN Y ≤ 2 * uN L + bit := by omega
          simp [q, p, this]
        · have : uN Y ≤ 2 * uN L + bit := by omega
          simp [q, p, this]
      · have : uN Y ≤ 2 * uN L + bit := by omega
        simp [q, this]
    have dmv := Nat.div_add_mod M (uN Y)
    rw [← hL] at dmv rl
    have next : ∃ (o : Nat) (L1 : Int64), o = (decide (uN Y ≤ 2 * uN L + bit)).toNat ∧ (if decide (uN Y ≤ 2 * uN L + bit) = true then 2 * L + T7 - Y else 2 * L + T7) = L1 ∧ M' = (2 * (M / uN Y) + o) * uN Y + uN L1 ∧ uN L1 < uN Y := by
      have ex : M' = 2 * (M / uN Y) * uN Y + (2 * uN L + bit) := by
        rw [st, Nat.mul_assoc, Nat.mul_comm (M / uN Y)]
        omega
      by_cases p : uN Y ≤ 2 * uN L + bit
      · refine ⟨1, 2 * L + T7 - Y, by rw [decide_eq_true p]; rfl, by rw [decide_eq_true p]; rfl, ?_, ?_⟩
        · rw [uN_sub, v4, ex, Nat.add_mul]
          omega
        · rw [uN_sub, v4]
          omega
      · refine ⟨0, 2 * L + T7, by rw [decide_eq_false p]; rfl, by rw [decide_eq_false p]; rfl, ?_, ?_⟩
        · rw [v4, ex, Nat.add_zero]
          omega
        · rw [v4]
          omega
    obtain ⟨o, L1, ho, hL1, n1, n2⟩ := next
    obtain ⟨q1, q2⟩ := dm n1 n2
    refine ⟨(nI i + 1, L1, sI s5 30 42 (jrem (2 * nI (M / uN Y % 8) + bI (decide (uN Y ≤ 2 * uN L + bit))) 8)), ?_, L1, ?_, q2.symm⟩
    · have bb : ∀ b : Bool, (if b = true then true else false) = b := fun b => by cases b <;> rfl
      unfold b_MS_divide_121
      simp only [e64, c1, if_false, g34', g30', hT7, one, hL1, bb, sI_sI]
    · rw [nI_1, two_nI (by omega), ← ho]
      have o1 : o ≤ 1 := by
        rw [ho]
        exact tn1' _
      have : jrem (nI (2 * (M / uN Y % 8) + o)) 8 = nI ((2 * (M / uN Y % 8) + o) % 8) := pk_rem (d := 8) (by omega) (by decide) (by decide)
      rw [this, q1]
      have e8 : (2 * (M / uN Y % 8) + o) % 8 = (2 * (M / uN Y) + o) % 8 := by omega
      rw [e8]
  · intro t ⟨L, et, hL⟩
    subst et
    have e0 : 64 + z - (64 + z) = 0 := by omega
    rw [e0, Nat.pow_zero, Nat.div_one] at hL
    refine ⟨_, ?_, nI (64 + z), L, rfl, hL⟩
    have c1 : nI (64 + z) ≤ nI (64 + z) := nI_le (by omega) (by omega)
    unfold b_MS_divide_121
    simp only [e64, c1, if_true, e0, Nat.pow_zero, Nat.div_one]
  · unfold upf
    have e1 : (nI (64 + z)).toInt = ((64 + z : Nat) : Int) := nI_toInt (by omega)
    have e2 : (0 : Int32).toInt = 0 := rfl
    rw [e64, e1, e2]
    omega
  · have z0 : uN x * 2 ^ z / 2 ^ (64 + z - 0) = 0 := by
      apply Nat.div_eq_of_lt
      rw [Nat.sub_zero, Nat.pow_add]
      exact Nat.mul_lt_mul_of_pos_right bx (pow_pos2 z)
    refine ⟨0, ?_, ?_⟩
    · rw [z0]
      have : nI (0 / uN Y % 8) = gI s5 30 42 := by rw [Nat.zero_div, g30]; rfl
      rw [this, sI_id]
      rfl
    · rw [z0, Nat.zero_mod]
      rfl
theorem remS_M {τ : St} {w : Nat} {A B : Re} (hset : setS w A B (remC A B) = none) (hA : RegIs τ 110 111 0 A) (hB : RegIs τ 110 111 1 B) (hwd : gI τ 27 42 = nI w) (hw : w < 65536) (ht : gI τ 28 42 = nI (denS A B)) : SOut τ (f_MS_divide τ 0 1) w (denS A B ||| (remV w A B).1, A.1, (remV w A B).2) ∧ gI (f_MS_divide τ 0 1) 30 42 = nI (remQ A B) ∧ gZ (f_MS_divide τ 0 1) 31 42 = remP A B := by
  have j0 : jat 0 = 0 := by decide
  have j1 : jat 1 = 1 := by decide
  obtain ⟨-, -, d2, en⟩ := setS_none hset
  obtain ⟨pA, pB⟩ := rem_facts hset
  have ea := unitN_rng hA.2.2
  have eb := unitN_rng hB.2.2
  have dl : denS A B < 64 := by omega
  have f2 : frT τ (sZ (sI τ 30 42 0) 31 42 false) := frT_trans (frT_I _ 30 42 _ (by decide)) (frT_Z _ 31 42 _ (by decide))
  have A2 := RegIs_T hA f2
  have B2 := RegIs_T hB f2
  have w2 : gI (sZ (sI τ 30 42 0) 31 42 false) 27 42 = nI w := by rw [(f2 27 42 (by decide)).1]; exact hwd
  have t2 : gI (sZ (sI τ 30 42 0) 31 42 false) 28 42 = nI (denS A B) := by rw [gI_sZ, gI_sI, if_neg (by decide)]; exact ht
  have h30 : gI (sZ (sI τ 30 42 0) 31 42 false) 30 42 = 0 := by simp [gI_sZ, gI_sI]
  have h31 : gZ (sZ (sI τ 30 42 0) 31 42 false) 31 42 = false := by simp [gZ_sZ]
  unfold f_MS_divide
  simp only []
  generalize sZ (sI τ 30 42 0) 31 42 false = s2 at *
  simp only [sinf_M j1 B2, snothing_M j0 A2]
  have nA : isNil A.2.1 A.2.2 = decide (A.2.2 = 0) := by
    unfold isNil
    simp [pA]
  rw [nA]
  by_cases c : isInf B.2.1 B.2.2 = true ∨ A.2.2 = 0
  · have rd : remD A B = -1 := by unfold remD; rw [if_pos c]
    have rn : remD A B < 0 := by omega
    have t1 : (if isInf B.2.1 B.2.2 = true then ((0 : Int64), (-1 : Int32), s2) else if decide (A.2.2 = 0) = true then (0, -1, s2) else (gJ (f_MS_apart s2 0) 34 42, gI (f_MS_apart s2 0) 35 42 - gI (f_MS_apart (f_MS_apart s2 0) 1) 35 42, f_MS_apart (f_MS_apart s2 0) 1)) = (0, -1, s2) := by
      rcases c with c | c
      · rw [if_pos c]
      · rw [decide_eq_true c, if_pos rfl]
        split <;> rfl
    rw [t1]
    have m1 : ¬ (0 : Int32) ≤ -1 := by decide
    simp only [m1, if_false]
    rw [sminus_M j0 A2, j0]
    have mk := SOut_make2 (s := τ) (m := A.1) (f := gJ s2 111 0) (R := remV w A B) f2 w2 hw t2 dl en (sunit_M j0 A2) ⟨by omega, by omega⟩ (by
      unfold remV remN remE
      rw [if_pos rn, if_pos rn, A2.2.1])
    refine ⟨mk.1, ?_, ?_⟩
    · rw [mk.2.1, h30]
      unfold remQ
      rw [if_pos rn]
      rfl
    · rw [mk.2.2, h31]
      unfold remP
      rw [rd]
      rfl
  · have hi : isInf B.2.1 B.2.2 = false := by
      cases q : isInf B.2.1 B.2.2
      · rfl
      · exact absurd (Or.inl q) c
    have fA : A.2.2 ≠ 0 := fun q => c (Or.inr q)
    have fB := pB hi
    have hD : remD A B = expS A - expS B := by unfold remD; rw [if_neg c]
    rw [hi, decide_eq_false fA]
    simp only [Bool.false_eq_true, if_false]
    obtain ⟨v, f, c1, c2, c3, c4, c5⟩ := apart_log j0 A2 fA
    have f3 := frT_trans f2 (apart_fr (τ := s2) v f)
    have B3 := RegIs_T B2 (apart_fr (τ := s2) v f)
    have g34 : gJ (sI (sJ s2 34 42 v) 35 42 f) 34 42 = v := by simp [gJ_sI, gJ_sJ]
    have g35 : gI (sI (sJ s2 34 42 v) 35 42 f) 35 42 = f := by simp [gI_sI]
    obtain ⟨v', f', d1, d2', d3, d4, d5⟩ := apart_log j1 B3 fB
    rw [c1, d1, g34, g35]
    have g34' : gJ (sI (sJ (sI (sJ s2 34 42 v) 35 42 f) 34 42 v') 35 42 f') 34 42 = v' := by simp [gJ_sI, gJ_sJ]
    have g35' : gI (sI (sJ (sI (sJ s2 34 42 v) 35 42 f) 34 42 v') 35 42 f') 35 42 = f' := by simp [gI_sI]
    have f4 := frT_trans f3 (apart_fr (τ := sI (sJ s2 34 42 v) 35 42 f) v' f')
    have h30' : gI (sI (sJ (sI (sJ s2 34 42 v) 35 42 f) 34 42 v') 35 42 f') 30 42 = 0 := by simp [gI_sI, gI_sJ, h30]
    have h31' : gZ (sI (sJ (sI (sJ s2 34 42 v) 35 42 f) 34 42 v') 35 42 f') 31 42 = false := h31
    have t3 : gI (sI (sJ (sI (sJ s2 34 42 v) 35 42 f) 34 42 v') 35 42 f') 28 42 = nI (denS A B) := by simp [gI_sI, gI_sJ, t2]
    generalize sI (sJ (sI (sJ s2 34 42 v) 35 42 f) 34 42 v') 35 42 f' = s4 at *
    rw [g35']
    have hv : (f - f').toInt = remD A B := by
      rw [i32_subT (by omega) (by omega), c4, d4, hD]
      rfl
    generalize hd : f - f' = d at *
    have A4 := RegIs_T hA f4
    have w4 : gI s4 27 42 = nI w := by rw [(f4 27 42 (by decide)).1]; exact hwd
    have c0 : (0 ≤ d) ↔ 0 ≤ remD A B := by rw [Int32.le_iff_toInt_le, hv]; exact Iff.rfl
    have c63 : (d ≤ 63) ↔ ¬ 63 < remD A B := by
      rw [Int32.le_iff_toInt_le, hv, show (63 : Int32).toInt = 63 by decide]
      omega
    simp only [c0]
    by_cases n : 0 ≤ remD A B
    · rw [if_pos n]
      have nd : ¬ remD A B < 0 := by omega
      have t2' : (if d ≤ 63 then false else true) = remP A B := by
        simp only [c63]
        unfold remP
        by_cases q : 63 < remD A B <;> simp [q]
      rw [t2']
      have h31 : gZ (sZ s4 31 42 (remP A B)) 31 42 = remP A B := by simp [gZ_sZ]
      rw [h31]
      have t4 : (if remP A B = true then 63 else d) = nI (remZ A B) := by
        unfold remP remZ
        by_cases q : 63 < remD A B
        · have : min (remD A B).toNat 63 = 63 := by omega
          rw [this, decide_eq_true q]
          rfl
        · have : min (remD A B).toNat 63 = (remD A B).toNat := by omega
          rw [this, decide_eq_false q]
          simp only [Bool.false_eq_true, if_false]
          apply Int32.toInt_inj.mp
          rw [hv, nI_toInt (by omega)]
          omega
      rw [t4]
      have zl : remZ A B ≤ 63 := by unfold remZ; omega
      obtain ⟨k, L, l1, l2⟩ := div_loop (x := v) (Y := v') (d := d) (st := s4) (s5 := sZ s4 31 42 (remP A B)) zl d3 g34' h30'
      rw [l1]
      simp only []
      have f5 : frT τ (sI (sZ s4 31 42 (remP A B)) 30 42 (nI (uN v * 2 ^ remZ A B / uN v' % 8))) := frT_trans f4 (frT_trans (frT_Z _ 31 42 _ (by decide)) (frT_I _ 30 42 _ (by decide)))
      have k30 : gI (sI (sZ s4 31 42 (remP A B)) 30 42 (nI (uN v * 2 ^ remZ A B / uN v' % 8))) 30 42 = nI (uN v * 2 ^ remZ A B / uN v' % 8) := by simp [gI_sI]
      have k31 : gZ (sI (sZ s4 31 42 (remP A B)) 30 42 (nI (uN v * 2 ^ remZ A B / uN v' % 8))) 31 42 = remP A B := h31
      have k35 : gI (sI (sZ s4 31 42 (remP A B)) 30 42 (nI (uN v * 2 ^ remZ A B / uN v' % 8))) 35 42 = f' := by rw [gI_sI, if_neg (by decide), gI_sZ]; exact g35'
      have w5 : gI (sI (sZ s4 31 42 (remP A B)) 30 42 (nI (uN v * 2 ^ remZ A B / uN v' % 8))) 27 42 = nI w := by rw [gI_sI, if_neg (by decide), gI_sZ]; exact w4
      have t5 : gI (sI (sZ s4 31 42 (remP A B)) 30 42 (nI (uN v * 2 ^ remZ A B / uN v' % 8))) 28 42 = nI (denS A B) := by rw [gI_sI, if_neg (by decide), gI_sZ]; exact t3
      have eq : uN v * 2 ^ remZ A B / uN v' % 8 = remQ A B := by
        unfold remQ norS
        rw [if_neg nd, c2, d2']
      have eN : uN L = remN A B := by
        unfold remN norS
        rw [if_neg nd, l2, c2, d2']
      rw [eq] at f5 k30 k31 k35 w5 t5 ⊢
      generalize sI (sZ s4 31 42 (remP A B)) 30 42 (nI (remQ A B)) = s7 at *
      rw [k35, sminus_M j0 (RegIs_T hA f5)]
      have e63 : (63 : Int32).toInt = 63 := by decide
      have ez : (nI (remZ A B)).toInt = remZ A B := nI_toInt (by omega)
      have xb : f'.toInt = expS B := d4
      have xa : expS A = unitN A.2.1 + (A.2.2.log2 : Int) := rfl
      have xb2 : expS B = unitN B.2.1 + (B.2.2.log2 : Int) := rfl
      have s1 : (f' + d).toInt = expS B + remD A B := by rw [i32_addT (by omega) (by omega), xb, hv]
      have s2 : (f' + d - nI (remZ A B)).toInt = expS B + remD A B - remZ A B := by rw [i32_subT (by omega) (by omega), s1, ez]
      have s3 : (f' + d - nI (remZ A B) - 63).toInt = remE A B := by
        rw [i32_subT (by omega) (by omega), s2, e63]
        unfold remE
        rw [if_neg nd]
      have mk := SOut_make2 (s := τ) (m := A.1) (f := L) (R := remV w A B) f5 w5 hw t5 dl en s3 (by
        unfold remE
        rw [if_neg nd]
        omega) (by
        unfold remV
        rw [eN])
      refine ⟨mk.1, ?_, ?_⟩
      · rw [mk.2.1]
        exact k30
      · rw [mk.2.2]
        exact k31
    · rw [if_neg n]
      have rn : remD A B < 0 := by omega
      rw [sminus_M j0 A4, j0]
      have mk := SOut_make2 (s := τ) (m := A.1) (f := gJ s4 111 0) (R := remV w A B) f4 w4 hw t3 dl en (sunit_M j0 A4) ⟨by omega, by omega⟩ (by
        unfold remV remN remE
        rw [if_pos rn, if_pos rn, A4.2.1])
      refine ⟨mk.1, ?_, ?_⟩
      · rw [mk.2.1, h30']
        unfold remQ
        rw [if_pos rn]
        rfl
      · rw [mk.2.2, h31']
        unfold remP
        rw [decide_eq_false (by omega)]
theorem remC_S {τ : St} {A B : Re} (hA : RegIs τ 110 111 0 A) (hB : RegIs τ 110 111 1 B) : (if f_MS_kind τ 0 = 4 then false else if f_MS_nothing τ 1 = true then false else if f_MS_kind τ 1 = 2 then false else true) = !remC A B := by
  have j0 : jat 0 = 0 := by decide
  have j1 : jat 1 = 1 := by decide
  have k : (f_MS_kind τ 1 = 2) ↔ kindN B.2.1 B.2.2 = 2 := by
    rw [skind_M j1 hB, show (2 : Int32) = nI 2 from rfl, nI_eq (kind_lt _ _) (by decide)]
  unfold remC
  simp only [sinf_M j0 hA, snothing_M j1 hB, k]
  cases isInf A.2.1 A.2.2 <;> cases isNil B.2.1 B.2.2 <;> by_cases q : kindN B.2.1 B.2.2 = 2 <;> simp [q]
theorem remainder_M {τ : St} {w : Nat} {A B : Re} (hA : RegIs τ 110 111 0 A) (hB : RegIs τ 110 111 1 B) (hwd : gI τ 27 42 = nI w) (hw : w < 65536) : KOut τ (f_MS_remainder τ 0 1 2) w 2 ((remS w A B).1, (remS w A B).2.1) ∧ ∀ P Q, (remS w A B).2.2 = some (P, Q) → gZ (f_MS_remainder τ 0 1 2).2 31 42 = P ∧ gI (f_MS_remainder τ 0 1 2).2 30 42 = nI Q := by
  have z2 : (2 : Int32) = nI 2 := rfl
  have j0 : jat 0 = 0 := by decide
  have j1 : jat 1 = 1 := by decide
  have n0 : f_MS_none 0 = false := by decide
  have n1 : f_MS_none 1 = false := by decide
  have n2 : f_MS_none 2 = false := by decide
  obtain ⟨b1, b2, b3, b4, b5⟩ := begin_S hwd
  have hA2 := RegIs_keys hA b5
  have hB2 := RegIs_keys hB b5
  have e0 : bI false = (0 : Int32) := rfl
  have g26 : gI (sI τ 26 42 0) 26 42 ≤ 0 := by
    rw [gI_sI, if_pos rfl, if_pos rfl]
    decide
  have goal : ∀ (t2 : St) (R : Nat × Ra), SOut (f_MS_begin (sI τ 26 42 0)) t2 w R → KOut τ (gI (f_MS_keep t2 2) 28 42, f_MS_keep t2 2) w 2 R := fun t2 R h => by
    rw [z2]
    exact keep_S (by decide) b1 h
  have kp : ∀ t2 : St, gZ (f_MS_keep t2 2) 31 42 = gZ t2 31 42 ∧ gI (f_MS_keep t2 2) 30 42 = gI t2 30 42 := fun t2 => by
    unfold f_MS_keep
    split
    · exact ⟨rfl, rfl⟩
    · exact ⟨rfl, rfl⟩
  unfold f_MS_remainder
  simp only [n0, n1, n2, Bool.false_eq_true, if_false, e0, g26, if_true]
  generalize f_MS_begin (sI τ 26 42 0) = s at *
  rw [remC_S hA2 hB2]
  have nn : (!!remC A B) = remC A B := by cases remC A B <;> rfl
  unfold remS
  rcases goes_2 (can := !remC A B) j0 j1 (by decide) hA2 hB2 b2 hw b3 b4 with ⟨R, ρ, e1, e2, e3⟩ | ⟨ρ, e1, e2, e3, e4, e5⟩
  · rw [nn] at e1
    rw [e1, e2]
    simp only [Bool.false_eq_true, if_false]
    exact ⟨goal ρ R e3, fun P Q e => by cases e⟩
  · rw [nn] at e1
    rw [e1, e2]
    simp only [if_true]
    have wd : gI ρ 27 42 = nI w := by rw [(e3 27 42 (by decide)).1]; exact b2
    obtain ⟨k1, k2, k3⟩ := remS_M e1 (RegIs_T hA2 e3) (RegIs_T hB2 e3) wd hw e4
    refine ⟨goal _ _ ⟨frT_trans e3 k1.1, k1.2⟩, fun P Q e => ?_⟩
    have e' : some (remP A B, remQ A B) = some (P, Q) := e
    have e2 := Option.some.inj e'
    have eP : remP A B = P := congrArg Prod.fst e2
    have eQ : remQ A B = Q := congrArg Prod.snd e2
    obtain ⟨x1, x2⟩ := kp (f_MS_divide ρ 0 1)
    exact ⟨by rw [x1, k3]; exact eP, by rw [x2, k2, eQ]⟩
