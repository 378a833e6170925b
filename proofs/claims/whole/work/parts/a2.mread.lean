/-! the reference: numbers in memory, read -/
def frC (τ ρ : St) : Prop := ∀ k x, ¬ (37 ≤ k ∧ k ≤ 44) → ¬ (112 ≤ k ∧ k ≤ 113) → gI ρ k x = gI τ k x ∧ gJ ρ k x = gJ τ k x ∧ gZ ρ k x = gZ τ k x
theorem frC_refl (τ : St) : frC τ τ := fun _ _ _ _ => ⟨rfl, rfl, rfl⟩
theorem frC_trans {τ ρ σ : St} (h : frC τ ρ) (g : frC ρ σ) : frC τ σ := fun k x a b => ⟨(g k x a b).1.trans (h k x a b).1, (g k x a b).2.1.trans (h k x a b).2.1, (g k x a b).2.2.trans (h k x a b).2.2⟩
theorem frC_I (τ : St) (k o : Nat) (v : Int32) (hk : (37 ≤ k ∧ k ≤ 44) ∨ (112 ≤ k ∧ k ≤ 113)) : frC τ (sI τ k o v) := fun k' x a b => by
  refine ⟨?_, rfl, rfl⟩
  rw [gI_sI, if_neg (by omega)]
theorem frC_J (τ : St) (k o : Nat) (v : Int64) (hk : (37 ≤ k ∧ k ≤ 44) ∨ (112 ≤ k ∧ k ≤ 113)) : frC τ (sJ τ k o v) := fun k' x a b => by
  refine ⟨rfl, ?_, rfl⟩
  rw [gJ_sJ, if_neg (by omega)]
theorem frC_Z (τ : St) (k o : Nat) (v : Bool) (hk : (37 ≤ k ∧ k ≤ 44) ∨ (112 ≤ k ∧ k ≤ 113)) : frC τ (sZ τ k o v) := fun k' x a b => by
  refine ⟨rfl, rfl, ?_⟩
  rw [gZ_sZ, if_neg (by omega)]
def RcIs (ρ : St) (R : Ra) : Prop := ∃ p : Int32, gI ρ 112 0 = sgT R.1 + p ∧ p.toInt = R.2.1 ∧ uN (gJ ρ 113 0) = R.2.2
theorem hi_loop {v : Int64} (h : uN v ≠ 0) : lpn (b_MC_become_34 v) 65 63 = nI (uN v).log2 ∧ (uN v).log2 < 64 := by
  have b := uN_lt2 v
  have g1 : 2 ^ (uN v).log2 ≤ uN v := (Nat.le_log2 h).mp (Nat.le_refl _)
  have g2 : uN v < 2 ^ ((uN v).log2 + 1) := (Nat.log2_lt h).mp (Nat.lt_succ_self _)
  have l : (uN v).log2 < 64 := (Nat.log2_lt h).mpr b
  refine ⟨?_, l⟩
  generalize (uN v).log2 = t at *
  refine lpn_P (b := b_MC_become_34 v) (fun i x => x = nI (63 - i)) (fun y => y = nI t) (63 - t) ?_ ?_ (by omega) rfl
  · intro i x hi hx
    subst hx
    have z : (uN v).testBit (63 - i) = false := Nat.testBit_lt_two_pow (Nat.lt_of_lt_of_le g2 (Nat.pow_le_pow_right (by decide) (by omega)))
    refine ⟨nI (63 - i) + (-1), ?_, ?_⟩
    · unfold b_MC_become_34
      have := (bit0 v (63 - i) rfl (by omega)).mpr z
      simp only [this, if_true]
    · obtain ⟨q, hq⟩ : ∃ q, 63 - i = q + 1 := ⟨62 - i, by omega⟩
      rw [hq, pk_m1]
      congr 1
      omega
  · intro x hx
    subst hx
    have e : 63 - (63 - t) = t := by omega
    rw [e]
    have o : (uN v).testBit t = true := by
      rw [ntb]
      apply decide_eq_true
      have : uN v / 2 ^ t = 1 := by
        apply Nat.div_eq_of_lt_le
        · omega
        · rw [Nat.pow_succ] at g2
          omega
      rw [this]
    refine ⟨nI t, ?_, rfl⟩
    unfold b_MC_become_34
    have : ¬ (jlshr v (nI t) &&& 1 = 0) := fun q => by
      have := (bit0 v t rfl (by omega)).mp q
      rw [o] at this
      cases this
    simp only [this, if_false]
theorem become_B {τ : St} {s : Bool} {v : Int64} {E : Int32} {e : Int} (hE : E.toInt = e) (he : -2000 ≤ e ∧ e ≤ 2000) : frC τ (f_MC_become τ 0 s v E) ∧ RcIs (f_MC_become τ 0 s v E) (numRe s (uN v) e) := by
  have j0 : jat 0 = 0 := by decide
  have z : (v = 0) ↔ uN v = 0 := uN_eq0
  have sg : (if s = true then (32768 : Int32) else 0) = sgT s := rfl
  unfold f_MC_become numRe
  simp only [z, j0, sg]
  by_cases c : uN v = 0
  · rw [if_pos c, if_pos c]
    refine ⟨frC_trans (frC_I _ 112 _ _ (by decide)) (frC_J _ 113 _ _ (by decide)), 0, ?_, rfl, ?_⟩
    · rw [gI_sJ, gI_sI, if_pos rfl, if_pos rfl]
      exact (Int32.add_zero _).symm
    · rw [gJ_sJ, if_pos rfl, if_pos rfl]
      rfl
  · rw [if_neg c, if_neg c]
    obtain ⟨l1, l2⟩ := hi_loop c
    rw [l1]
    have e16 : (16383 : Int32).toInt = 16383 := by decide
    have et : (nI (uN v).log2).toInt = (uN v).log2 := nI_toInt (by omega)
    have a1 : (E + nI (uN v).log2).toInt = e + (uN v).log2 := by rw [i32_addT (by omega) (by omega), hE, et]
    have g0 : gI (sJ (sI τ 112 0 (sgT s)) 113 0 0) 112 0 = sgT s := by rw [gI_sJ, gI_sI, if_pos rfl, if_pos rfl]
    rw [g0]
    refine ⟨frC_trans (frC_I _ 112 _ _ (by decide)) (frC_trans (frC_J _ 113 _ _ (by decide)) (frC_trans (frC_I _ 112 _ _ (by decide)) (frC_J _ 113 _ _ (by decide)))), E + nI (uN v).log2 + 16383, ?_, ?_, ?_⟩
    · rw [gI_sJ, gI_sI, if_pos rfl, if_pos rfl]
    · rw [i32_addT (by omega) (by omega), a1, e16]
    · rw [gJ_sJ, if_pos rfl, if_pos rfl]
      have e63 : (63 : Int32) - nI (uN v).log2 = nI (63 - (uN v).log2) := pk_sub (a := 63) (by omega)
      rw [e63, uN_jlshl v _ rfl (by omega)]
      apply Nat.mod_eq_of_lt
      have g2 : uN v < 2 ^ ((uN v).log2 + 1) := (Nat.log2_lt c).mp (Nat.lt_succ_self _)
      have : uN v * 2 ^ (63 - (uN v).log2) < 2 ^ ((uN v).log2 + 1) * 2 ^ (63 - (uN v).log2) := Nat.mul_lt_mul_of_pos_right g2 (pow_pos2 _)
      rw [← Nat.pow_add] at this
      have e2 : (uN v).log2 + 1 + (63 - (uN v).log2) = 64 := by omega
      rw [e2] at this
      exact this
theorem frac_loop {s4 : St} {d N : Nat} (hd : 24 ≤ d) (hd2 : d ≤ 53) (hB : BA s4 N.testBit) (h0 : gJ s4 113 0 = 0) : ∃ x : Int64, (lpn (b_MC_readReal_92 0 (nI d)) (upf (nI d - 1) 0) (0, s4)).2 = sJ s4 113 0 x ∧ uN x = N % 2 ^ (d - 1) * 2 ^ (64 - d) := by
  have j0 : jat 0 = 0 := by decide
  have d1 : nI d - 1 = nI (d - 1) := pk_sub (b := 1) (by omega)
  have d64 : (64 : Int32) - nI d = nI (64 - d) := pk_sub (a := 64) (by omega)
  refine lpn_P (b := b_MC_readReal_92 0 (nI d)) (fun i t => ∃ x : Int64, t = (nI i, sJ s4 113 0 x) ∧ uN x = N % 2 ^ i * 2 ^ (64 - d)) (fun y => ∃ x : Int64, y.2 = sJ s4 113 0 x ∧ uN x = N % 2 ^ (d - 1) * 2 ^ (64 - d)) (d - 1) ?_ ?_ ?_ ?_
  · intro i t hi ⟨x, et, hx⟩
    subst et
    have c1 : ¬ nI (d - 1) ≤ nI i := nI_ge (by omega) (by omega)
    have hB' : BA (sJ s4 113 0 x) N.testBit := hB
    have g : gJ (sJ s4 113 0 x) 113 0 = x := by simp [gJ_sJ]
    have sh : nI (64 - d) + nI i = nI (64 - d + i) := nI_add _ _
    refine ⟨(nI (i + 1), sJ s4 113 0 (x + jlshl (Int32.toInt64 (nI (N.testBit i).toNat)) (nI (64 - d + i)))), ?_, _, rfl, ?_⟩
    · unfold b_MC_readReal_92
      simp only [d1, c1, if_false, j0, g, bit_B hB' (show i < 80 by omega), d64, sh, sJ_sJ, nI_1]
    · have tl := tn1 (N.testBit i)
      have p1 : (2 : Nat) ^ (64 - d + i) ≤ 2 ^ 63 := Nat.pow_le_pow_right (by decide) (by omega)
      have p2 : (N.testBit i).toNat * 2 ^ (64 - d + i) ≤ 1 * 2 ^ (64 - d + i) := Nat.mul_le_mul_right _ tl
      have ml : N % 2 ^ i < 2 ^ i := Nat.mod_lt _ (pow_pos2 i)
      have ml2 : N % 2 ^ i * 2 ^ (64 - d) < 2 ^ i * 2 ^ (64 - d) := Nat.mul_lt_mul_of_pos_right ml (pow_pos2 _)
      rw [← Nat.pow_add, Nat.add_comm i] at ml2
      rw [uN_add, uN_jlshl _ _ rfl (by omega), uN_nI (by omega), hx, mod_succ, Nat.add_mul, Nat.mul_assoc, ← Nat.pow_add, Nat.add_comm i (64 - d)]
      omega
  · intro t ⟨x, et, hx⟩
    subst et
    have c1 : nI (d - 1) ≤ nI (d - 1) := nI_le (by omega) (by omega)
    refine ⟨(nI (d - 1), sJ s4 113 0 x), ?_, x, rfl, hx⟩
    unfold b_MC_readReal_92
    simp only [d1, c1, if_true]
  · unfold upf
    rw [d1, nI_toInt (by omega)]
    show d - 1 < (((d - 1 : Nat) : Int) - 0).toNat + 1
    omega
  · refine ⟨0, ?_, ?_⟩
    · have : sJ s4 113 0 0 = s4 := by
        rw [← h0]
        apply St_ext <;> intro k' x
        · rfl
        · rw [gJ_sJ]
          split
          · split
            · subst_vars
              rfl
            · rfl
          · rfl
        · rfl
      rw [this]
      rfl
    · rw [Nat.pow_zero, Nat.mod_one, Nat.zero_mul]
      rfl
theorem masked_C {τ : St} {w : Nat} (hwd : gI τ 38 45 = nI w) (hw : w < 65536) (i : Nat) (hi : i < 16) : f_MC_masked τ (nI (2 ^ i)) = decide (w / 2 ^ i % 2 = 1) := by
  have p : 2 ^ i < 2 ^ 16 := Nat.pow_lt_pow_right (by decide) hi
  have r2 : jrem (nI w / nI (2 ^ i)) 2 = nI (w / 2 ^ i % 2) := rem_M hw (2 ^ i) 2 (pow_pos2 i) p (by decide) (by decide)
  have e1 : (nI (w / 2 ^ i % 2) = 1) ↔ w / 2 ^ i % 2 = 1 := nI_eq (b := 1) (by omega) (by decide)
  unfold f_MC_masked
  simp only [hwd, r2, e1]
  by_cases q : w / 2 ^ i % 2 = 1 <;> simp [q]
def COutC (τ : St) (r : Int32 × St) (w : Nat) (R : Nat × Ra) : Prop := r.1 = nI R.1 ∧ frC τ r.2 ∧ R.1 < 64 ∧ (endsN w R.1 = false → RcIs r.2 R.2)
theorem COutC_pre {τ s1 : St} {r : Int32 × St} {w : Nat} {R : Nat × Ra} (f : frC τ s1) (o : COutC s1 r w R) : COutC τ r w R := ⟨o.1, frC_trans f o.2.1, o.2.2⟩
theorem readReal_B {τ : St} {w d p N : Nat} (hdp : (d = 24 ∧ p = 8) ∨ (d = 53 ∧ p = 11)) (hB : BA τ N.testBit) (hwd : gI τ 38 45 = nI w) (hw : w < 65536) : COutC τ (f_MC_readReal τ 0 (nI d) (nI p)) w (floR d p N) := by
  obtain ⟨p1, p2, p3, p4, p5, p6, p7, p8, p9, p10, p11⟩ := floP hdp
  have j0 : jat 0 = 0 := by decide
  have d1 : nI d - 1 = nI (d - 1) := pk_sub (b := 1) (by omega)
  have d1p : nI (d - 1) + nI p = nI (d - 1 + p) := nI_add _ _
  have t1 : (if nI (N.testBit (d - 1 + p)).toNat = 1 then true else false) = N.testBit (d - 1 + p) := by cases N.testBit (d - 1 + p) <;> decide
  have v1 : Int64.toInt32 (f_MC_bits τ (nI (d - 1)) (nI p)) = nI (N / 2 ^ (d - 1) % 2 ^ p) := by
    have b := bits_B hB (d - 1) p (by omega) (by omega) (by omega)
    have ml : N / 2 ^ (d - 1) % 2 ^ p < 2 ^ p := Nat.mod_lt _ (pow_pos2 p)
    rw [i32_of_l (by rw [b]; omega), b]
  have v2 : uN (f_MC_bits τ 0 (nI (d - 1))) = N % 2 ^ (d - 1) := by
    have b := bits_B hB 0 (d - 1) (by omega) (by omega) (by omega)
    rw [Nat.pow_zero, Nat.div_one] at b
    exact b
  have v4 : nI (2 ^ p - 1) / 2 = nI (2 ^ (p - 1) - 1) := by
    have : nI (2 ^ p - 1) / nI 2 = nI ((2 ^ p - 1) / 2) := pk_div (by omega) (by decide) (by decide)
    have e : (2 ^ p - 1) / 2 = 2 ^ (p - 1) - 1 := by rcases hdp with ⟨rfl, rfl⟩ | ⟨rfl, rfl⟩ <;> decide
    rw [e] at this
    exact this
  have ql : N / 2 ^ (d - 1) % 2 ^ p < 2 ^ p := Nat.mod_lt _ (pow_pos2 p)
  have pl : N % 2 ^ (d - 1) < 2 ^ (d - 1) := Nat.mod_lt _ (pow_pos2 _)
  have c1 : (nI (N / 2 ^ (d - 1) % 2 ^ p) = nI (2 ^ p - 1)) ↔ N / 2 ^ (d - 1) % 2 ^ p = 2 ^ p - 1 := nI_eq (by omega) (by omega)
  have c0 : (nI (N / 2 ^ (d - 1) % 2 ^ p) = 0) ↔ N / 2 ^ (d - 1) % 2 ^ p = 0 := nI_eq0 (by omega)
  have c3 : (f_MC_bits τ 0 (nI (d - 1)) = 0) ↔ N % 2 ^ (d - 1) = 0 := by rw [uN_eq0, v2]
  have mk := masked_C hwd hw 1 (by decide)
  have mk' : f_MC_masked τ 2 = decide (w / 2 % 2 = 1) := mk
  have pp2 : 2 ^ p = 2 * 2 ^ (p - 1) := by rcases hdp with ⟨rfl, rfl⟩ | ⟨rfl, rfl⟩ <;> decide
  have eb : (nI (2 ^ (p - 1) - 1)).toInt = ((2 ^ (p - 1) - 1 : Nat) : Int) := nI_toInt (by omega)
  have ed : (nI d).toInt = d := nI_toInt (by omega)
  unfold f_MC_readReal f_MC_readReal_b166 floR
  simp only [d1, d1p, bit_B hB (show d - 1 + p < 80 by omega), t1, v1, p1, v4, c1, c0, c3, mk']
  generalize f_MC_bits τ 0 (nI (d - 1)) = X at *
  generalize hq : N / 2 ^ (d - 1) % 2 ^ p = q at *
  by_cases e1 : q = 2 ^ p - 1
  · rw [if_pos e1, if_pos e1]
    generalize hs : N.testBit (d - 1 + p) = s at *
    have sg : (if s = true then (32768 : Int32) else 0) = sgT s := rfl
    rw [sg, j0]
    have hB' : BA (sJ (sI τ 112 0 (sgT s + 32767)) 113 0 0) N.testBit := hB
    have g0 : gJ (sJ (sI τ 112 0 (sgT s + 32767)) 113 0 0) 113 0 = 0 := by simp [gJ_sJ]
    obtain ⟨x, l1, l2⟩ := frac_loop p7 p8 hB' g0
    rw [d1] at l1
    rw [l1]
    have g1 : gJ (sJ (sJ (sI τ 112 0 (sgT s + 32767)) 113 0 0) 113 0 x) 113 0 = x := by simp [gJ_sJ]
    rw [g1]
    refine ⟨rfl, frC_trans (frC_I _ 112 _ _ (by decide)) (frC_trans (frC_J _ 113 _ _ (by decide)) (frC_trans (frC_J _ 113 _ _ (by decide)) (frC_J _ 113 _ _ (by decide)))), (show 0 < 64 by decide), fun _ => ⟨32767, ?_, (show (32767 : Int32).toInt = 32767 by decide), ?_⟩⟩
    · show gI (sI τ 112 0 (sgT s + 32767)) 112 0 = sgT s + 32767
      rw [gI_sI, if_pos rfl, if_pos rfl]
    · show uN (gJ (sJ _ 113 0 (x + -9223372036854775808)) 113 0) = 9223372036854775808 + N % 2 ^ (d - 1) * 2 ^ (64 - d)
      have pw : (2 : Nat) ^ (d - 1) * 2 ^ (64 - d) = 2 ^ 63 := by
        rw [← Nat.pow_add]
        congr 1
        omega
      have v3l : N % 2 ^ (d - 1) * 2 ^ (64 - d) < 2 ^ 63 := by
        rw [← pw]
        exact Nat.mul_lt_mul_of_pos_right pl (pow_pos2 _)
      have e63 : uN (-9223372036854775808) = 9223372036854775808 := by decide
      rw [gJ_sJ, if_pos rfl, if_pos rfl, uN_add, e63, l2]
      omega
  · rw [if_neg e1, if_neg e1]
    generalize hs : N.testBit (d - 1 + p) = s at *
    by_cases e0 : q = 0
    · simp only [e0, if_true]
      have e2 : (2 : Int32).toInt = 2 := by decide
      have a1 : ((2 : Int32) - nI (2 ^ (p - 1) - 1)).toInt = 2 - ((2 ^ (p - 1) - 1 : Nat) : Int) := by rw [i32_subT (by omega) (by omega), e2, eb]
      have a2 : ((2 : Int32) - nI (2 ^ (p - 1) - 1) - nI d).toInt = 2 - ((2 ^ (p - 1) - 1 : Nat) : Int) - d := by rw [i32_subT (by omega) (by omega), a1, ed]
      obtain ⟨k1, k2⟩ := become_B (τ := τ) (s := s) (v := X) a2 ⟨by omega, by omega⟩
      rw [v2] at k2
      by_cases ez : N % 2 ^ (d - 1) = 0
      · simp only [ez, if_true] at k2 ⊢
        exact ⟨rfl, k1, (show 0 < 64 by decide), fun _ => k2⟩
      · simp only [ez, if_false]
        by_cases wm : w / 2 % 2 = 1
        · simp only [wm, decide_true, if_true]
          exact ⟨rfl, k1, (show 2 < 64 by decide), fun _ => k2⟩
        · simp only [wm, decide_false, Bool.false_eq_true, if_false]
          refine ⟨rfl, frC_refl _, (show 2 < 64 by decide), fun q => ?_⟩
          have q' : endsN w 2 = false := q
          rw [ends2, decide_eq_true wm] at q'
          cases q'
    · simp only [e0, if_false]
      have one : (1 : Int32).toInt = 1 := by decide
      have eq : (nI q).toInt = q := nI_toInt (by omega)
      have a1 : (nI q - nI (2 ^ (p - 1) - 1)).toInt = q - ((2 ^ (p - 1) - 1 : Nat) : Int) := by rw [i32_subT (by omega) (by omega), eq, eb]
      have a2 : (nI q - nI (2 ^ (p - 1) - 1) - nI d).toInt = q - ((2 ^ (p - 1) - 1 : Nat) : Int) - d := by rw [i32_subT (by omega) (by omega), a1, ed]
      have a3 : (nI q - nI (2 ^ (p - 1) - 1) - nI d + 1).toInt = q - ((2 ^ (p - 1) - 1 : Nat) : Int) - d + 1 := by rw [i32_addT (by omega) (by omega), a2, one]
      obtain ⟨k1, k2⟩ := become_B (τ := τ) (s := s) (v := X + jlshl 1 (nI (d - 1))) a3 ⟨by omega, by omega⟩
      have ex : uN (X + jlshl 1 (nI (d - 1))) = N % 2 ^ (d - 1) + 2 ^ (d - 1) := by
        have p52 : (2 : Nat) ^ (d - 1) ≤ 2 ^ 52 := Nat.pow_le_pow_right (by decide) (by omega)
        have u1 : uN 1 = 1 := rfl
        rw [uN_add, v2, uN_jlshl _ _ rfl (by omega), u1]
        omega
      rw [ex] at k2
      exact ⟨rfl, k1, (show 0 < 64 by decide), fun _ => k2⟩
theorem whole_loop {s1 : St} {N n : Nat} {s : Bool} (hB : BA s1 N.testBit) (hn : 1 ≤ n) (hn2 : n ≤ 64) : uN (lpn (b_MC_read_227 s1 s) (dnf (nI (n - 1))) (nI (n - 1), 0)).2 = if s then 2 ^ n - 1 - N % 2 ^ n else N % 2 ^ n := by
  have em : (-1 : Int32).toInt = -1 := by decide
  have e1 : (nI (n - 1)).toInt = ((n - 1 : Nat) : Int) := nI_toInt (by omega)
  refine lpn_P (b := b_MC_read_227 s1 s) (fun i t => t.1.toInt = (n : Int) - 1 - i ∧ uN t.2 = if s then 2 ^ i - 1 - N / 2 ^ (n - i) % 2 ^ i else N / 2 ^ (n - i) % 2 ^ i) (fun y => uN y.2 = if s then 2 ^ n - 1 - N % 2 ^ n else N % 2 ^ n) n ?_ ?_ ?_ ?_
  · intro i t hi ⟨t1, t2⟩
    obtain ⟨a, b⟩ := t
    simp only at t1 t2
    obtain ⟨q, hq⟩ : ∃ q : Nat, q = n - 1 - i := ⟨_, rfl⟩
    have ea : a = nI q := by
      apply Int32.toInt_inj.mp
      rw [t1, nI_toInt (by omega)]
      omega
    have c2 : ¬ nI q < 0 := nI_pos (by omega)
    have t6 : (if s = true then 1 - nI (N.testBit q).toNat else nI (N.testBit q).toNat) = nI (if s then 1 - (N.testBit q).toNat else (N.testBit q).toNat) := by
      cases s <;> cases N.testBit q <;> decide
    refine ⟨(nI q + (-1), 2 * b + Int32.toInt64 (nI (if s then 1 - (N.testBit q).toNat else (N.testBit q).toNat))), ?_, ?_, ?_⟩
    · unfold b_MC_read_227
      simp only [ea, c2, if_false, bit_B hB (show q < 80 by omega), t6]
    · show (nI q + (-1)).toInt = _
      rw [i32_addT (by rw [nI_toInt (by omega), em]; omega) (by rw [nI_toInt (by omega), em]; omega), nI_toInt (by omega), em]
      omega
    · show uN (2 * b + Int32.toInt64 (nI (if s then 1 - (N.testBit q).toNat else (N.testBit q).toNat))) = _
      have tl := tn1 (N.testBit q)
      have tl2 : (if s = true then 1 - (N.testBit q).toNat else (N.testBit q).toNat) ≤ 1 := by split <;> omega
      have pi : (2 : Nat) ^ i ≤ 2 ^ 63 := Nat.pow_le_pow_right (by decide) (by omega)
      have pp := pow_pos2 i
      have ml : N / 2 ^ (n - i) % 2 ^ i < 2 ^ i := Nat.mod_lt _ (pow_pos2 i)
      rw [uN_add, dbl_two, uN_nI (by omega), t2]
      have x1 : n - (i + 1) = q := by omega
      have x2 : n - i = q + 1 := by omega
      rw [x1, x2]
      rw [x2] at ml
      have x3 : N / 2 ^ (q + 1) = N / 2 ^ q / 2 := by rw [Nat.pow_succ, Nat.div_div_eq_div_mul]
      have x4 := tbN N q
      rw [x3]
      rw [x3] at ml
      generalize N / 2 ^ q = M at *
      have x5 : M % 2 ^ (i + 1) = M % 2 + 2 * (M / 2 % 2 ^ i) := by
        rw [Nat.pow_succ, Nat.mul_comm (2 ^ i), Nat.mod_mul]
      have x6 : (2 : Nat) ^ (i + 1) = 2 * 2 ^ i := by rw [Nat.pow_succ, Nat.mul_comm]
      cases s with
      | true =>
        simp only [if_true]
        rw [x5, x4, x6]
        omega
      | false =>
        simp only [Bool.false_eq_true, if_false]
        rw [x5, x4]
        omega
  · intro t ⟨t1, t2⟩
    obtain ⟨a, b⟩ := t
    simp only at t1 t2
    have c1 : a < 0 := Int32.lt_iff_toInt_lt.mpr (by rw [t1]; show _ < (0 : Int); omega)
    refine ⟨(a, b), ?_, ?_⟩
    · unfold b_MC_read_227
      simp only [c1, if_true]
    · show uN b = _
      rw [t2, Nat.sub_self, Nat.pow_zero, Nat.div_one]
  · unfold dnf
    rw [e1]
    omega
  · refine ⟨?_, ?_⟩
    · show (nI (n - 1)).toInt = _
      rw [e1]
      omega
    · show uN 0 = _
      rw [Nat.pow_zero, Nat.mod_one]
      split <;> rfl
theorem decs_B {s1 : St} {N : Nat} (hB : BA s1 N.testBit) : uN (lpn (b_MC_read_126 s1) (dnf 17) (17, 0)).2 = decN N 18 := by
  have em : (-1 : Int32).toInt = -1 := by decide
  refine lpn_P (b := b_MC_read_126 s1) (fun i t => t.1.toInt = 17 - (i : Int) ∧ uN t.2 = decN N i) (fun y => uN y.2 = decN N 18) 18 ?_ ?_ ?_ ?_
  · intro i t hi ⟨t1, t2⟩
    obtain ⟨a, b⟩ := t
    simp only at t1 t2
    have ea : a = nI (17 - i) := by
      apply Int32.toInt_inj.mp
      rw [t1, nI_toInt (by omega)]
      omega
    have c2 : ¬ nI (17 - i) < 0 := nI_pos (by omega)
    have e4 : (4 : Int32) * nI (17 - i) = nI (4 * (17 - i)) := pk_mul 4 _
    have bb := bits_B hB (4 * (17 - i)) 4 (by decide) (by decide) (by omega)
    refine ⟨(nI (17 - i) + (-1), 10 * b + f_MC_bits s1 (nI (4 * (17 - i))) (nI 4)), ?_, ?_, ?_⟩
    · unfold b_MC_read_126
      simp only [ea, c2, if_false, e4]
      rfl
    · show (nI (17 - i) + (-1)).toInt = _
      rw [i32_addT (by rw [nI_toInt (by omega), em]; omega) (by rw [nI_toInt (by omega), em]; omega), nI_toInt (by omega), em]
      omega
    · show uN (10 * b + f_MC_bits s1 (nI (4 * (17 - i))) (nI 4)) = _
      have le := decN_le N (i + 1)
      have p18 : 10 ^ (i + 1) ≤ 10 ^ 18 := Nat.pow_le_pow_right (by decide) (by omega)
      have e10 : uN 10 = 10 := rfl
      rw [uN_add, uN_mul, e10, t2, bb]
      rw [decN_succ] at le ⊢
      omega
  · intro t ⟨t1, t2⟩
    obtain ⟨a, b⟩ := t
    simp only at t1 t2
    have c1 : a < 0 := Int32.lt_iff_toInt_lt.mpr (by rw [t1]; decide)
    refine ⟨(a, b), ?_, t2⟩
    unfold b_MC_read_126
    simp only [c1, if_true]
  · decide
  · exact ⟨by decide, rfl⟩
theorem whole_B {τ s1 : St} {w n N : Nat} (f1 : frC τ s1) (hB : BA s1 N.testBit) (hn : n = 16 ∨ n = 32 ∨ n = 64) : COutC τ (0, f_MC_become s1 0 (if f_MC_bit s1 (nI n - 1) = 1 then true else false) (if (if f_MC_bit s1 (nI n - 1) = 1 then true else false) = true then (lpn (b_MC_read_227 s1 (if f_MC_bit s1 (nI n - 1) = 1 then true else false)) (dnf (nI n - 1)) (nI n - 1, 0)).2 + 1 else (lpn (b_MC_read_227 s1 (if f_MC_bit s1 (nI n - 1) = 1 then true else false)) (dnf (nI n - 1)) (nI n - 1, 0)).2) 0) w (0, whoR n N) := by
  have n1 : nI n - 1 = nI (n - 1) := pk_sub (b := 1) (by omega)
  have t1 : (if nI (N.testBit (n - 1)).toNat = 1 then true else false) = N.testBit (n - 1) := by cases N.testBit (n - 1) <;> decide
  rw [n1, bit_B hB (show n - 1 < 80 by omega), t1]
  have lp := whole_loop (s := N.testBit (n - 1)) hB (show 1 ≤ n by omega) (by omega)
  generalize (lpn (b_MC_read_227 s1 (N.testBit (n - 1))) (dnf (nI (n - 1))) (nI (n - 1), 0)).2 = X at *
  have ml : N % 2 ^ n < 2 ^ n := Nat.mod_lt _ (pow_pos2 n)
  have tb : (N.testBit (n - 1) = true) ↔ ¬ N % 2 ^ n < 2 ^ (n - 1) := by
    rw [ntb, decide_eq_true_eq]
    rcases hn with rfl | rfl | rfl
    · simp only [show (16 - 1 : Nat) = 15 from rfl]
      omega
    · simp only [show (32 - 1 : Nat) = 31 from rfl]
      omega
    · simp only [show (64 - 1 : Nat) = 63 from rfl]
      omega
  have p64 : (2 : Nat) ^ n ≤ 2 ^ 64 := Nat.pow_le_pow_right (by decide) (by omega)
  have pos := pow_pos2 (n - 1)
  have u1 : uN 1 = 1 := rfl
  have whole : whoR n N = numRe (N.testBit (n - 1)) (uN (if N.testBit (n - 1) = true then X + 1 else X)) 0 := by
    unfold whoR
    cases hs : N.testBit (n - 1) with
    | true =>
      have := tb.mp hs
      rw [hs] at lp
      simp only [if_true] at lp ⊢
      rw [if_neg this, uN_add, lp, u1]
      congr 1
      omega
    | false =>
      have : N % 2 ^ n < 2 ^ (n - 1) := by
        rcases Nat.lt_or_ge (N % 2 ^ n) (2 ^ (n - 1)) with q | q
        · exact q
        · have := tb.mpr (by omega)
          rw [hs] at this
          cases this
      rw [hs] at lp
      simp only [Bool.false_eq_true, if_false] at lp ⊢
      rw [if_pos this, lp]
  obtain ⟨k1, k2⟩ := become_B (τ := s1) (s := N.testBit (n - 1)) (v := if N.testBit (n - 1) = true then X + 1 else X) (E := 0) (e := 0) (by decide) (by decide)
  rw [← whole] at k2
  exact ⟨rfl, frC_trans f1 k1, (show 0 < 64 by decide), fun _ => k2⟩
theorem read_B {τ : St} {w fm N : Nat} (hfm : fm ≤ 6) (hB : BA τ N.testBit) (hwd : gI τ 38 45 = nI w) (hw : w < 65536) : COutC τ (f_MC_read τ (nI fm) 0) w (readS fm N) := by
  have n0 : f_MC_none 0 = false := by decide
  have c1 : ¬ nI fm < 0 := nI_pos (by omega)
  have c2 : nI fm ≤ 6 := nI_le (b := 6) (by omega) (by decide)
  have g37 : gI (sI τ 37 45 0) 37 45 ≤ 0 := by
    rw [gI_sI, if_pos rfl, if_pos rfl]
    decide
  have f1 : frC τ (sI τ 37 45 0) := frC_I _ 37 _ _ (by decide)
  have hB1 : BA (sI τ 37 45 0) N.testBit := hB
  have w1 : gI (sI τ 37 45 0) 38 45 = nI w := hwd
  unfold f_MC_read
  simp only [n0, Bool.false_eq_true, if_false, c1, c2, if_true, g37]
  generalize sI τ 37 45 0 = s1 at *
  have j0 : jat 0 = 0 := by decide
  have j8 : jat 8 = 8 := by decide
  have j9 : jat 9 = 9 := by decide
  have m8 := hB1 8 (by decide)
  have m9 := hB1 9 (by decide)
  rw [by8_N, show (256 : Nat) ^ 8 = 2 ^ 64 by decide] at m8
  rw [by8_N, show (256 : Nat) ^ 9 = 2 ^ 72 by decide] at m9
  rcases (show fm = 0 ∨ fm = 1 ∨ fm = 2 ∨ fm = 3 ∨ fm = 4 ∨ fm = 5 ∨ fm = 6 by omega) with rfl | rfl | rfl | rfl | rfl | rfl | rfl
  · rw [if_neg (show ¬ nI 0 = 3 by decide), if_neg (show ¬ nI 0 = 4 by decide), if_neg (show ¬ nI 0 = 6 by decide), if_neg (show ¬ nI 0 = 5 by decide), if_pos (show nI 0 = 0 by decide), rs0]
    exact whole_B (n := 16) f1 hB1 (Or.inl rfl)
  · rw [if_neg (show ¬ nI 1 = 3 by decide), if_neg (show ¬ nI 1 = 4 by decide), if_neg (show ¬ nI 1 = 6 by decide), if_neg (show ¬ nI 1 = 5 by decide), if_neg (show ¬ nI 1 = 0 by decide), if_pos (show nI 1 = 1 by decide), rs1]
    exact whole_B (n := 32) f1 hB1 (Or.inr (Or.inl rfl))
  · rw [if_neg (show ¬ nI 2 = 3 by decide), if_neg (show ¬ nI 2 = 4 by decide), if_neg (show ¬ nI 2 = 6 by decide), if_neg (show ¬ nI 2 = 5 by decide), if_neg (show ¬ nI 2 = 0 by decide), if_neg (show ¬ nI 2 = 1 by decide), rs2]
    exact whole_B (n := 64) f1 hB1 (Or.inr (Or.inr rfl))
  · rw [if_pos (show nI 3 = 3 by decide), rs3, show (24 : Int32) = nI 24 from rfl, show (8 : Int32) = nI 8 from rfl]
    have r := COutC_pre f1 (readReal_B (d := 24) (p := 8) (Or.inl ⟨rfl, rfl⟩) hB1 w1 hw)
    generalize f_MC_readReal s1 0 (nI 24) (nI 8) = q at *
    generalize floR 24 8 N = R at *
    exact r
  · rw [if_neg (show ¬ nI 4 = 3 by decide), if_pos (show nI 4 = 4 by decide), rs4, show (53 : Int32) = nI 53 from rfl, show (11 : Int32) = nI 11 from rfl]
    have r := COutC_pre f1 (readReal_B (d := 53) (p := 11) (Or.inr ⟨rfl, rfl⟩) hB1 w1 hw)
    generalize f_MC_readReal s1 0 (nI 53) (nI 11) = q at *
    generalize floR 53 11 N = R at *
    exact r
  · rw [if_neg (show ¬ nI 5 = 3 by decide), if_neg (show ¬ nI 5 = 4 by decide), if_neg (show ¬ nI 5 = 6 by decide), if_pos (show nI 5 = 5 by decide), rs5, j9, m9]
    have c : (nI (N / 2 ^ 72 % 256) ≤ 127) ↔ ¬ 128 ≤ N / 2 ^ 72 % 256 := by
      rw [show (127 : Int32) = nI 127 from rfl, nI_leI (by omega) (by decide)]
      omega
    have sg : (if nI (N / 2 ^ 72 % 256) ≤ 127 then false else true) = decide (128 ≤ N / 2 ^ 72 % 256) := by
      simp only [c]
      by_cases q : 128 ≤ N / 2 ^ 72 % 256 <;> simp [q]
    rw [sg]
    have dc := decs_B hB1
    generalize (lpn (b_MC_read_126 s1) (dnf 17) (17, 0)).2 = X at *
    obtain ⟨k1, k2⟩ := become_B (τ := s1) (s := decide (128 ≤ N / 2 ^ 72 % 256)) (v := X) (E := 0) (e := 0) (by decide) (by decide)
    rw [dc] at k2
    exact ⟨rfl, frC_trans f1 k1, (show 0 < 64 by decide), fun _ => k2⟩
  · rw [if_neg (show ¬ nI 6 = 3 by decide), if_neg (show ¬ nI 6 = 4 by decide), if_pos (show nI 6 = 6 by decide), rs6, j8, j9, j0, m8, m9]
    have e1 : nI (N / 2 ^ 64 % 256) + 256 * nI (N / 2 ^ 72 % 256) = nI (N / 2 ^ 64 % 65536) := by
      have : (256 : Int32) * nI (N / 2 ^ 72 % 256) = nI (256 * (N / 2 ^ 72 % 256)) := pk_mul 256 _
      rw [this, nI_add]
      congr 1
      omega
    rw [e1]
    refine ⟨rfl, frC_trans f1 (frC_trans (frC_I _ 112 _ _ (by decide)) (frC_J _ 113 _ _ (by decide))), (show 0 < 64 by decide), fun _ => ⟨nI (N / 2 ^ 64 % 65536 % 32768), ?_, ?_, ?_⟩⟩
    · show gI (sI s1 112 0 (nI (N / 2 ^ 64 % 65536))) 112 0 = sgT (decide (32768 ≤ N / 2 ^ 64 % 65536)) + nI (N / 2 ^ 64 % 65536 % 32768)
      rw [gI_sI, if_pos rfl, if_pos rfl]
      by_cases q : 32768 ≤ N / 2 ^ 64 % 65536
      · rw [decide_eq_true q]
        show _ = nI 32768 + nI (N / 2 ^ 64 % 65536 % 32768)
        rw [nI_add]
        congr 1
        omega
      · rw [decide_eq_false q]
        show _ = nI 0 + nI (N / 2 ^ 64 % 65536 % 32768)
        rw [nI_add]
        congr 1
        omega
    · exact nI_toInt (by omega)
    · show uN (gJ (sJ (sI s1 112 0 (nI (N / 2 ^ 64 % 65536))) 113 0 (f_MC_bits (sI s1 112 0 (nI (N / 2 ^ 64 % 65536))) 0 64)) 113 0) = N % 2 ^ 64
      rw [gJ_sJ, if_pos rfl, if_pos rfl]
      have hB2 : BA (sI s1 112 0 (nI (N / 2 ^ 64 % 65536))) N.testBit := hB1
      have b := bits_B hB2 0 64 (by decide) (by decide) (by decide)
      rw [Nat.pow_zero, Nat.div_one] at b
      exact b
