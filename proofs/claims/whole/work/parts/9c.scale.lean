/-! scaling -/
def scaleC (B : Re) : Bool := decide (B.2.1 = 32767) || (decide (B.2.2 ≠ 0) && decide (14 ≤ unitN B.2.1 + (B.2.2.log2 : Int)))
def scaleN (B : Re) : Nat := if B.2.2 = 0 then 0 else if unitN B.2.1 + (B.2.2.log2 : Int) < 0 then 0 else B.2.2 * 2 ^ (63 - B.2.2.log2) / 2 ^ (63 - (unitN B.2.1 + (B.2.2.log2 : Int))).toNat
def scaleE (A B : Re) : Int := unitN A.2.1 + (if B.1 then -(scaleN B : Int) else (scaleN B : Int))
def scaleS (w : Nat) (A B : Re) : Nat × Ra :=
  (setS w A B (scaleC B)).getD
    (if isInf A.2.1 A.2.2 then (denS A B, asRa A)
     else (denS A B ||| (SPz w 64 A.1 A.2.2 false (scaleE A B)).1, A.1, (SPz w 64 A.1 A.2.2 false (scaleE A B)).2))
theorem norm_log {F j : Nat} (hj : j < 64) (h1 : 2 ^ 63 ≤ F * 2 ^ j) (h2 : F * 2 ^ j < 2 ^ 64) : F.log2 = 63 - j := by
  apply Lg_log2
  apply Lg_of_mul (j := j)
  have e : 63 - j + j = 63 := by omega
  rw [e]
  exact ⟨h1, h2⟩
theorem i32_of_l {v : Int64} (h : uN v < 2147483648) : Int64.toInt32 v = nI (uN v) := by
  apply Int32.toInt_inj.mp
  rw [Int64.toInt_toInt32, uN_int, if_pos (by omega), nI_toInt (by omega), Int.bmod_eq_of_le (by omega) (by omega)]
theorem exp_C {s : St} {o F : Nat} {e : Int} (h : Loaded s o F e) (he : -20000 ≤ e ∧ e ≤ 20000) : (f_Size_exponent s o).toInt = if F = 0 then -16873 else e + (F.log2 : Int) := by
  have e127 : (127 : Int32).toInt = 127 := by decide
  unfold f_Size_exponent
  rcases h.2.2 with ⟨h1, h2, h3⟩ | ⟨h1, j, h2, h3, h4⟩
  · rw [if_pos h1, i32_addT (by omega) (by omega), h3, e127]
    rfl
  · have hF := (Loaded_F h).mpr h1
    have b := uN_lt2 (gJ s 8 o)
    rw [h3] at h1 b
    rw [if_neg hF, i32_addT (by omega) (by omega), h4, e127, norm_log h2 h1 b]
    omega
theorem scaleN_lt {B : Re} (hF : B.2.2 < 2 ^ 64) (h : scaleC B = false) : scaleN B < 16384 := by
  unfold scaleN
  by_cases z : B.2.2 = 0
  · rw [if_pos z]
    decide
  · rw [if_neg z]
    have c : ¬ 14 ≤ unitN B.2.1 + (B.2.2.log2 : Int) := by
      intro q
      unfold scaleC at h
      simp [z, q] at h
    by_cases n : unitN B.2.1 + (B.2.2.log2 : Int) < 0
    · rw [if_pos n]
      decide
    · rw [if_neg n]
      obtain ⟨k, hk⟩ : ∃ k : Nat, unitN B.2.1 + (B.2.2.log2 : Int) = k := ⟨(unitN B.2.1 + (B.2.2.log2 : Int)).toNat, by omega⟩
      have e : (63 - (unitN B.2.1 + (B.2.2.log2 : Int))).toNat = 63 - k := by omega
      have l : B.2.2.log2 < 64 := (Nat.log2_lt z).mpr hF
      have g2 : B.2.2 < 2 ^ (B.2.2.log2 + 1) := (Nat.log2_lt z).mp (Nat.lt_succ_self _)
      rw [e, Nat.div_lt_iff_lt_mul (pow_pos2 _)]
      have g3 : B.2.2 * 2 ^ (63 - B.2.2.log2) < 2 ^ (B.2.2.log2 + 1) * 2 ^ (63 - B.2.2.log2) := Nat.mul_lt_mul_of_pos_right g2 (pow_pos2 _)
      rw [← Nat.pow_add] at g3
      have e2 : B.2.2.log2 + 1 + (63 - B.2.2.log2) = 64 := by omega
      rw [e2] at g3
      have g4 : (2 : Nat) ^ 64 ≤ 2 ^ 14 * 2 ^ (63 - k) := by
        rw [← Nat.pow_add]
        exact Nat.pow_le_pow_right (by decide) (by omega)
      exact Nat.lt_of_lt_of_le g3 g4
theorem Outc_pre {σ ρ τ : St} {w t a4 : Nat} {R : Nat × Ra} (f : frR a4 σ ρ) (o : Outc ρ τ w t a4 R) : Outc σ τ w t a4 R := ⟨frR_trans f o.1, o.2⟩
theorem frS_11 (s : St) (o : Nat) (v : Int32) : frS s (sI s 11 o v) := by
  refine ⟨fun k x a => ?_, fun _ _ _ _ _ _ => rfl, fun _ _ _ _ => rfl⟩
  rw [gI_sI, if_neg a]
theorem Loaded_shift {s : St} {o F : Nat} {e d : Int} {v : Int32} (h : Loaded s o F e) (hv : v.toInt = d) (he : -20000 ≤ e ∧ e ≤ 20000) (hd : -17000 ≤ d ∧ d ≤ 17000) : SizeIs (sI s 11 o (gI s 11 o + v)) o F false (e + d) := by
  rcases h.2.2 with ⟨h1, h2, h3⟩ | ⟨h1, j, h2, h3, h4⟩
  · exact Or.inl ⟨h1, h2, h.1⟩
  · refine Loaded_Size ⟨h.1, h.2.1, Or.inr ⟨h1, j, h2, h3, ?_⟩⟩ ⟨by omega, by omega⟩
    rw [gI_sI, if_pos rfl, if_pos rfl, i32_addT (by omega) (by omega), h4, hv]
    omega
theorem sgn_n {m : Bool} {n : Nat} (h : n < 2 ^ 30) : (if m = true then -nI n else nI n).toInt = if m then -(n : Int) else n := by
  cases m
  · simp only [Bool.false_eq_true, if_false]
    exact nI_toInt (by omega)
  · simp only [if_true]
    rw [Int32.toInt_neg, nI_toInt (by omega), Int.bmod_eq_of_le (by omega) (by omega)]
theorem scale_cn {s : St} {b : Nat} {B : Re} (hb : RealIs s b B.1 B.2.1 B.2.2) (hl : Loaded s 7 B.2.2 (unitN B.2.1)) : (if f_Real_isInfinite s b = true then true else if f_Size_exponent s 7 < 14 then false else true) = scaleC B := by
  have er := unitN_rng hb.2.2.2
  have ex := exp_C hl ⟨by omega, by omega⟩
  have c14 : (f_Size_exponent s 7 < 14) ↔ ¬ 14 ≤ (if B.2.2 = 0 then -16873 else unitN B.2.1 + (B.2.2.log2 : Int)) := by
    rw [Int32.lt_iff_toInt_lt, ex, show (14 : Int32).toInt = 14 by decide]
    omega
  unfold scaleC
  simp only [inf_N hb, c14]
  unfold isInf
  by_cases z : B.2.2 = 0
  · by_cases p : B.2.1 = 32767 <;> simp [z, p]
  · by_cases p : B.2.1 = 32767
    · have u : unitN B.2.1 = 16321 := by rw [p]; rfl
      have : (14 : Int) ≤ unitN B.2.1 + (B.2.2.log2 : Int) := by omega
      simp only [z, p, if_false, decide_true, Bool.true_and, Bool.true_or]
      rw [p] at this
      simp [this]
    · simp only [z, p, if_false, decide_false, Bool.false_and, Bool.false_eq_true, Bool.false_or]
      by_cases q : (14 : Int) ≤ unitN B.2.1 + (B.2.2.log2 : Int) <;> simp [q, z]
theorem scale_by {s : St} {B : Re} (hp : B.2.1 ≤ 32767) (hl : Loaded s 7 B.2.2 (unitN B.2.1)) (hc : scaleC B = false) : (if 0 ≤ f_Size_exponent s 7 then Int64.toInt32 (jlushr (gJ s 8 7) (63 - f_Size_exponent s 7)) else 0) = nI (scaleN B) := by
  have er := unitN_rng hp
  have ex := exp_C hl ⟨by omega, by omega⟩
  have c0 : (0 ≤ f_Size_exponent s 7) ↔ 0 ≤ (if B.2.2 = 0 then -16873 else unitN B.2.1 + (B.2.2.log2 : Int)) := by
    rw [Int32.le_iff_toInt_le, ex]
    exact Iff.rfl
  have bF : B.2.2 < 2 ^ 64 := by
    rcases hl.2.2 with ⟨h1, h2, h3⟩ | ⟨h1, j, h2, h3, h4⟩
    · omega
    · have := uN_lt2 (gJ s 8 7)
      have p := pow_pos2 j
      have : B.2.2 * 1 ≤ B.2.2 * 2 ^ j := Nat.mul_le_mul_left _ p
      omega
  have lt := scaleN_lt bF hc
  simp only [c0]
  by_cases z : B.2.2 = 0
  · have : scaleN B = 0 := by unfold scaleN; rw [if_pos z]
    rw [this]
    simp [z]
    rfl
  · simp only [z, if_false] at ex ⊢
    by_cases n : unitN B.2.1 + (B.2.2.log2 : Int) < 0
    · have : scaleN B = 0 := by unfold scaleN; rw [if_neg z, if_pos n]
      rw [this, if_neg (by omega)]
      rfl
    · have c : ¬ 14 ≤ unitN B.2.1 + (B.2.2.log2 : Int) := by
        intro q
        unfold scaleC at hc
        simp [z, q] at hc
      obtain ⟨k, hk⟩ : ∃ k : Nat, unitN B.2.1 + (B.2.2.log2 : Int) = k := ⟨(unitN B.2.1 + (B.2.2.log2 : Int)).toNat, by omega⟩
      have ek : f_Size_exponent s 7 = nI k := by
        apply Int32.toInt_inj.mp
        rw [ex, nI_toInt (by omega), hk]
      have e63 : (63 : Int32) - f_Size_exponent s 7 = nI (63 - k) := by
        rw [ek]
        exact pk_sub (a := 63) (by omega)
      have e : (63 - (unitN B.2.1 + (B.2.2.log2 : Int))).toNat = 63 - k := by omega
      rcases hl.2.2 with ⟨h1, h2, h3⟩ | ⟨h1, j, h2, h3, h4⟩
      · exact absurd h1 z
      · have b := uN_lt2 (gJ s 8 7)
        have h1' := h1
        rw [h3] at h1' b
        have lg := norm_log h2 h1' b
        have ej : 63 - B.2.2.log2 = j := by omega
        have v : uN (jlushr (gJ s 8 7) (63 - f_Size_exponent s 7)) = scaleN B := by
          rw [uN_jlushr _ (63 - k) e63 (by omega), h3]
          unfold scaleN
          rw [if_neg z, if_neg n, e, ej]
        rw [if_pos (by omega), i32_of_l (by rw [v]; omega), v]
theorem scale_C {σ : St} {w t a b a4 : Nat} {A B : Re} (hs : gI σ 6 3 = nI w) (hw : w < 65536) (ht : gI σ 7 3 = nI t) (htt : t < 64) (hne : endsN w t = false) (ha : RealIs σ a A.1 A.2.1 A.2.2) (hb : RealIs σ b B.1 B.2.1 B.2.2) (n1 : a ≠ a4) (n2 : b ≠ a4) : Outc σ (f_Steps_scale σ a b a4) w t a4 (scaleS w A B) := by
  unfold f_Steps_scale scaleS
  obtain ⟨h, u, c1, c2⟩ := load_spec σ 7 b B.2.1 hb.2.2.2 hb.2.1
  rw [hb.2.2.1] at c2
  simp only [c1]
  have fs := frS_szm σ 7 h 0 false u
  have ha1 := RealIs_fr ha fs
  have hb1 := RealIs_fr hb fs
  have s6 : gI (szm σ 7 h 0 false u) 6 3 = nI w := by rw [fs.1 6 3 (by decide)]; exact hs
  have s7 : gI (szm σ 7 h 0 false u) 7 3 = nI t := by rw [fs.1 7 3 (by decide)]; exact ht
  generalize szm σ 7 h 0 false u = s1 at *
  have er := unitN_rng ha.2.2.2
  have cn := scale_cn hb1 c2
  simp only [cn]
  rcases settle_C (a4 := a4) (cn := scaleC B) s6 hw s7 htt hne ha1 hb1 with ⟨R, τ, e1, e2, e3⟩ | ⟨e1, e2, d2, en, nn, e6⟩
  · rw [e1, e2]
    simp only [if_true]
    exact Outc_pre (frR_S fs) e3
  · rw [e1, e2]
    simp only [Bool.false_eq_true, if_false]
    show Outc σ _ w t a4 (if isInf A.2.1 A.2.2 then _ else _)
    have by_ := scale_by hb.2.2.2 c2 e6
    have l7 : gJ (f_Ctl_tell s1 (nI (denS A B))) 8 7 = gJ s1 8 7 := rfl
    have f1 : frR a4 σ (f_Ctl_tell s1 (nI (denS A B))) := frR_trans (frR_S fs) (frR_tell _ _ _)
    have f1' : frR a4 s1 (f_Ctl_tell s1 (nI (denS A B))) := frR_tell _ _ _
    have t1 : gI (f_Ctl_tell s1 (nI (denS A B))) 7 3 = nI (t ||| denS A B) := by rw [tell_7, s7, nI_or _ _ (by omega) (by omega)]
    have s1' : gI (f_Ctl_tell s1 (nI (denS A B))) 6 3 = nI w := s6
    have ra := RealIs_frR ha1 f1' n1
    have rb := RealIs_frR hb1 f1' n2
    have dl : denS A B < 64 := by omega
    simp only [l7, by_]
    have bB := uN_lt2 (gJ σ 17 b)
    rw [hb.2.2.1] at bB
    have nlt := scaleN_lt bB e6
    generalize f_Ctl_tell s1 (nI (denS A B)) = ρ at *
    rw [inf_N ra]
    by_cases hi : isInf A.2.1 A.2.2 = true
    · rw [if_pos hi, if_pos hi]
      exact Outc_take f1 t1 dl ra
    · rw [if_neg hi, if_neg hi]
      obtain ⟨h2, u2, d1, d2'⟩ := load_spec ρ 6 a A.2.1 ra.2.2.2 ra.2.1
      rw [ra.2.2.1] at d2'
      rw [d1]
      have f2 := frS_szm ρ 6 h2 0 false u2
      have mb : gZ (szm ρ 6 h2 0 false u2) 15 b = B.1 := (RealIs_fr rb f2).1
      have ra2 := RealIs_fr ra f2
      have w2 : gI (szm ρ 6 h2 0 false u2) 6 3 = nI w := by rw [f2.1 6 3 (by decide)]; exact s1'
      have t2 : gI (szm ρ 6 h2 0 false u2) 7 3 = nI (t ||| denS A B) := by rw [f2.1 7 3 (by decide)]; exact t1
      generalize szm ρ 6 h2 0 false u2 = s2 at *
      rw [mb]
      have sn := sgn_n (m := B.1) (n := scaleN B) (by omega)
      generalize (if B.1 = true then -nI (scaleN B) else nI (scaleN B)) = v at *
      have f3 := frS_11 s2 6 (gI s2 11 6 + v)
      have sz := Loaded_shift d2' sn ⟨by omega, by omega⟩ (by split <;> omega)
      have w3 : gI (sI s2 11 6 (gI s2 11 6 + v)) 6 3 = nI w := by rw [f3.1 6 3 (by decide)]; exact w2
      have t3 : gI (sI s2 11 6 (gI s2 11 6 + v)) 7 3 = nI (t ||| denS A B) := by rw [f3.1 7 3 (by decide)]; exact t2
      have m3 : gZ (sI s2 11 6 (gI s2 11 6 + v)) 15 a = A.1 := ra2.1
      have sz' : SizeIs (sI s2 11 6 (gI s2 11 6 + v)) 6 A.2.2 false (scaleE A B) := sz
      have f4 : frR a4 σ (sI s2 11 6 (gI s2 11 6 + v)) := frR_trans f1 (frR_trans (frR_S f2) (frR_S f3))
      generalize sI s2 11 6 (gI s2 11 6 + v) = s3 at *
      rw [m3, show (64 : Int32) = nI 64 from rfl]
      obtain ⟨σ2, pw, F, m1, m2, m3', m4⟩ := class_make s3 11 6 A.1 64 a4 w A.2.2 false (scaleE A B) w3 hw (Or.inr (Or.inr rfl)) sz'
      obtain ⟨r1, r2, r3, r4⟩ := SPz_rng (w := w) (m := A.1) (n := 64) (Or.inr (Or.inr rfl)) sz'
      rw [m2]
      have t4 : gI σ2 7 3 = nI (t ||| denS A B) := by rw [m1.1 7 3 (by decide)]; exact t3
      exact Outc_set2 (frR_trans f4 (frR_S m1)) t4 htt dl r1 m3' m4 ⟨r3, r4⟩
