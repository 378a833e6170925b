/-! taking apart: the power and the fraction -/
def expS (A : Re) : Int := unitN A.2.1 + (A.2.2.log2 : Int)
def powS (w : Nat) (A : Re) : Nat × Int × Nat := SPz w 64 (decide (expS A < 0)) (expS A).natAbs false 0
def fraS (w : Nat) (A : Re) : Nat × Int × Nat := SPz w 64 A.1 (A.2.2 * 2 ^ (63 - A.2.2.log2)) false (-63)
def extS (w : Nat) (A : Re) : Nat × Ra × Ra :=
  ((setS w A A false).map (fun R => (R.1, R.2, R.2))).getD
    (if isInf A.2.1 A.2.2 then (denS A A, (false, 32767, 9223372036854775808), asRa A)
     else if isNil A.2.1 A.2.2 then (denS A A ||| 4, (true, 32767, 9223372036854775808), (A.1, 0, 0))
     else (denS A A ||| (powS w A).1 ||| (fraS w A).1, (decide (expS A < 0), (powS w A).2), (A.1, (fraS w A).2)))
def frP (σ τ : St) : Prop := (∀ k x, k ≠ 7 → k ≠ 11 → k ≠ 20 → ¬ (k = 16 ∧ 12 ≤ x ∧ x ≤ 15) → gI τ k x = gI σ k x) ∧ (∀ k x, k ≠ 8 → k ≠ 9 → k ≠ 12 → k ≠ 14 → ¬ (k = 17 ∧ 12 ≤ x ∧ x ≤ 15) → gJ τ k x = gJ σ k x) ∧ (∀ k x, k ≠ 10 → k ≠ 13 → k ≠ 18 → k ≠ 19 → ¬ (k = 15 ∧ 12 ≤ x ∧ x ≤ 15) → gZ τ k x = gZ σ k x)
theorem frP_refl (σ : St) : frP σ σ := ⟨fun _ _ _ _ _ _ => rfl, fun _ _ _ _ _ _ _ => rfl, fun _ _ _ _ _ _ _ => rfl⟩
theorem frP_trans {σ τ ρ : St} (h : frP σ τ) (g : frP τ ρ) : frP σ ρ := ⟨fun k x a b c d => (g.1 k x a b c d).trans (h.1 k x a b c d), fun k x a b c d e => (g.2.1 k x a b c d e).trans (h.2.1 k x a b c d e), fun k x a b c d e => (g.2.2 k x a b c d e).trans (h.2.2 k x a b c d e)⟩
theorem frP_R {σ τ : St} {a : Nat} (h : frR a σ τ) (ha : 12 ≤ a ∧ a ≤ 15) : frP σ τ := ⟨fun k x p q _ r => h.1 k x q p (fun z => r ⟨z.1, by omega, by omega⟩), fun k x p q r s t => h.2.1 k x p q r s (fun z => t ⟨z.1, by omega, by omega⟩), fun k x p q _ _ t => h.2.2 k x p q (fun z => t ⟨z.1, by omega, by omega⟩)⟩
def RaIs (τ : St) (a : Nat) (R : Ra) : Prop := gZ τ 15 a = R.1 ∧ (gI τ 16 a).toInt = R.2.1 ∧ uN (gJ τ 17 a) = R.2.2 ∧ 0 ≤ R.2.1 ∧ R.2.1 ≤ 32767
theorem RaIs_frR {σ τ : St} {a a4 : Nat} {R : Ra} (h : RaIs σ a R) (f : frR a4 σ τ) (hne : a ≠ a4) : RaIs τ a R := by
  refine ⟨?_, ?_, ?_, h.2.2.2⟩
  · rw [f.2.2 15 a (by decide) (by decide) (fun z => hne z.2)]
    exact h.1
  · rw [f.1 16 a (by decide) (by decide) (fun z => hne z.2)]
    exact h.2.1
  · rw [f.2.1 17 a (by decide) (by decide) (by decide) (by decide) (fun z => hne z.2)]
    exact h.2.2.1
theorem RaIs_take {ρ : St} {a x : Nat} {R : Ra} (h : RaIs ρ x R) : RaIs (f_Real_take ρ a x) a R := by
  rw [take_set]
  obtain ⟨g1, g2, g3, g4, g5⟩ := set_get ρ a (gZ ρ 15 x) (gI ρ 16 x) (gJ ρ 17 x)
  exact ⟨by rw [g1]; exact h.1, by rw [g2]; exact h.2.1, by rw [g3]; exact h.2.2.1, h.2.2.2⟩
theorem RaIs_set {ρ : St} {a : Nat} {m : Bool} {p : Int32} {f : Int64} {P : Int} {F : Nat} (hp : p.toInt = P) (hF : uN f = F) (hP : 0 ≤ P ∧ P ≤ 32767) : RaIs (f_Real_set ρ a m p f) a (m, P, F) := by
  obtain ⟨g1, g2, g3, g4, g5⟩ := set_get ρ a m p f
  exact ⟨g1, by rw [g2]; exact hp, by rw [g3]; exact hF, hP⟩
theorem RaIs_Re {ρ : St} {a : Nat} {A : Re} (h : RealIs ρ a A.1 A.2.1 A.2.2) : RaIs ρ a (asRa A) := by
  refine ⟨h.1, ?_, h.2.2.1, ?_, ?_⟩
  · rw [h.2.1]
    exact nI_toInt (by have := h.2.2.2; omega)
  · show (0 : Int) ≤ (A.2.1 : Int)
    omega
  · show (A.2.1 : Int) ≤ 32767
    have := h.2.2.2
    omega
def ExtC (σ τ : St) (w t : Nat) (R : Nat × Ra × Ra) : Prop := frP σ τ ∧ gI τ 7 3 = nI (t ||| R.1) ∧ R.1 < 64 ∧ (endsN w R.1 = false → RaIs τ 14 R.2.1 ∧ RaIs τ 15 R.2.2)
theorem abs_l {v : Int32} {k : Int} (h : v.toInt = k) (hb : -100000 ≤ k ∧ k ≤ 100000) : uN (if 0 ≤ v then Int32.toInt64 v else Int32.toInt64 (-v)) = k.natAbs ∧ (if 0 ≤ v then false else true) = decide (k < 0) := by
  have c : (0 ≤ v) ↔ 0 ≤ k := by
    rw [Int32.le_iff_toInt_le, h]
    exact Iff.rfl
  simp only [c]
  by_cases q : 0 ≤ k
  · have n : ¬ k < 0 := by omega
    simp only [q, if_true, n, decide_false, and_true]
    have e := uN_int (Int32.toInt64 v)
    have b := uN_lt (Int32.toInt64 v)
    rw [Int32.toInt_toInt64, h] at e
    split at e <;> omega
  · have n : k < 0 := by omega
    simp only [q, if_false, n, decide_true, and_true]
    have e := uN_int (Int32.toInt64 (-v))
    have b := uN_lt (Int32.toInt64 (-v))
    rw [Int32.toInt_toInt64, Int32.toInt_neg, h, Int.bmod_eq_of_le (by omega) (by omega)] at e
    split at e <;> omega
theorem extract_C {σ : St} {w t : Nat} {A : Re} (hs : gI σ 6 3 = nI w) (hw : w < 65536) (ht : gI σ 7 3 = nI t) (htt : t < 64) (hne : endsN w t = false) (ha : RealIs σ 12 A.1 A.2.1 A.2.2) : ExtC σ (f_Steps_extract σ 12 14 15) w t (extS w A) := by
  unfold f_Steps_extract extS
  rcases settle_C (a4 := 15) (cn := false) hs hw ht htt hne ha ha with ⟨R, τ, e1, e2, e3⟩ | ⟨e1, e2, d2, en, nn, -⟩
  · rw [e1, e2]
    simp only [if_true]
    show ExtC σ _ w t (R.1, R.2, R.2)
    have f2 : frR 14 τ (f_Real_take τ 14 15) := by rw [take_set]; exact frR_set _ _ _ _ _
    refine ⟨frP_trans (frP_R e3.1 (by decide)) (frP_R f2 (by decide)), ?_, e3.2.2.1, fun q => ?_⟩
    · have : gI (f_Real_take τ 14 15) 7 3 = gI τ 7 3 := rfl
      rw [this]
      exact e3.2.1
    · have v : RaIs τ 15 R.2 := e3.2.2.2 q
      exact ⟨RaIs_take v, RaIs_frR v f2 (by decide)⟩
  · rw [e1, e2]
    simp only [Bool.false_eq_true, if_false]
    show ExtC σ _ w t (if isInf A.2.1 A.2.2 then _ else _)
    have f1 : frR 15 σ (f_Ctl_tell σ (nI (denS A A))) := frR_tell _ _ _
    have t1 : gI (f_Ctl_tell σ (nI (denS A A))) 7 3 = nI (t ||| denS A A) := by rw [tell_7, ht, nI_or _ _ (by omega) (by omega)]
    have s1 : gI (f_Ctl_tell σ (nI (denS A A))) 6 3 = nI w := hs
    have ra := RealIs_frR ha f1 (by decide)
    have dl : denS A A < 64 := by omega
    have er := unitN_rng ha.2.2.2
    have fp := frP_R f1 (by decide)
    generalize f_Ctl_tell σ (nI (denS A A)) = ρ at *
    rw [inf_N ra, nil_N ra]
    by_cases hi : isInf A.2.1 A.2.2 = true
    · rw [if_pos hi, if_pos hi]
      have g1 : frR 14 ρ (f_Real_setInfinite ρ 14 false) := frR_set _ _ _ _ _
      have v1 : RaIs (f_Real_setInfinite ρ 14 false) 14 (false, 32767, 9223372036854775808) := RaIs_set (by decide) (by decide) (by decide)
      have t2 : gI (f_Real_setInfinite ρ 14 false) 7 3 = nI (t ||| denS A A) := t1
      have ra2 := RealIs_frR ra g1 (by decide)
      generalize f_Real_setInfinite ρ 14 false = ρ1 at *
      have g2 : frR 15 ρ1 (f_Real_take ρ1 15 12) := by rw [take_set]; exact frR_set _ _ _ _ _
      exact ⟨frP_trans fp (frP_trans (frP_R g1 (by decide)) (frP_R g2 (by decide))), t2, dl, fun _ => ⟨RaIs_frR v1 g2 (by decide), RaIs_take (RaIs_Re ra2)⟩⟩
    · rw [if_neg hi, if_neg hi]
      by_cases hn : isNil A.2.1 A.2.2 = true
      · rw [if_pos hn, if_pos hn]
        have g0 : frR 14 ρ (f_Ctl_tell ρ 4) := frR_tell _ _ _
        have t2 : gI (f_Ctl_tell ρ 4) 7 3 = nI (t ||| (denS A A ||| 4)) := by
          rw [tell_7, t1, show (4 : Int32) = nI 4 from rfl, nI_or _ _ (by have := or_lt64 htt dl; omega) (by decide), Nat.or_assoc]
        have ra2 := RealIs_frR ra g0 (by decide)
        generalize f_Ctl_tell ρ 4 = ρ0 at *
        have g1 : frR 14 ρ0 (f_Real_setInfinite ρ0 14 true) := frR_set _ _ _ _ _
        have v1 : RaIs (f_Real_setInfinite ρ0 14 true) 14 (true, 32767, 9223372036854775808) := RaIs_set (by decide) (by decide) (by decide)
        have t3 : gI (f_Real_setInfinite ρ0 14 true) 7 3 = nI (t ||| (denS A A ||| 4)) := t2
        have ra3 := RealIs_frR ra2 g1 (by decide)
        generalize f_Real_setInfinite ρ0 14 true = ρ1 at *
        rw [ra3.1]
        have g2 : frR 15 ρ1 (f_Real_setZero ρ1 15 A.1) := frR_set _ _ _ _ _
        exact ⟨frP_trans fp (frP_trans (frP_R g0 (by decide)) (frP_trans (frP_R g1 (by decide)) (frP_R g2 (by decide)))), t3, or_lt64 dl (by decide), fun _ => ⟨RaIs_frR v1 g2 (by decide), RaIs_set (by decide) (by decide) (by decide)⟩⟩
      · rw [if_neg hn, if_neg hn]
        have hF : A.2.2 ≠ 0 := fun z => by
          unfold isInf at hi
          unfold isNil at hn
          by_cases p : A.2.1 = 32767 <;> simp [p, z] at hi hn
        obtain ⟨h, u, c1, c2⟩ := load_spec ρ 6 12 A.2.1 ra.2.2.2 ra.2.1
        rw [ra.2.2.1] at c2
        rw [c1]
        have fs := frS_szm ρ 6 h 0 false u
        have ra2 := RealIs_fr ra fs
        have w2 : gI (szm ρ 6 h 0 false u) 6 3 = nI w := by rw [fs.1 6 3 (by decide)]; exact s1
        have t2 : gI (szm ρ 6 h 0 false u) 7 3 = nI (t ||| denS A A) := by rw [fs.1 7 3 (by decide)]; exact t1
        generalize szm ρ 6 h 0 false u = s1 at *
        have ex := exp_C c2 ⟨by omega, by omega⟩
        rw [if_neg hF] at ex
        have hlog : A.2.2.log2 < 64 := by
          rcases c2.2.2 with ⟨z1, z2, z3⟩ | ⟨z1, j, z2, z3, z4⟩
          · exact absurd z1 hF
          · have b := uN_lt2 (gJ s1 8 6)
            have z1' := z1
            rw [z3] at z1' b
            have := norm_log z2 z1' b
            omega
        have ex' : (f_Size_exponent s1 6).toInt = expS A := ex
        obtain ⟨av, an⟩ := abs_l ex' (by unfold expS; omega)
        simp only [an]
        generalize (if 0 ≤ f_Size_exponent s1 6 then Int32.toInt64 (f_Size_exponent s1 6) else Int32.toInt64 (-f_Size_exponent s1 6)) = N at *
        have f11 := frS_11 s1 6 (-127)
        have ld : Loaded (sI s1 11 6 (-127)) 6 (A.2.2 * 2 ^ (63 - A.2.2.log2)) (-63) := by
          refine ⟨c2.1, c2.2.1, ?_⟩
          rcases c2.2.2 with ⟨z1, z2, z3⟩ | ⟨z1, j, z2, z3, z4⟩
          · exact absurd z1 hF
          · have b := uN_lt2 (gJ s1 8 6)
            have z1' := z1
            rw [z3] at z1' b
            have lg := norm_log z2 z1' b
            have ej : 63 - A.2.2.log2 = j := by omega
            refine Or.inr ⟨z1, 0, by decide, ?_, ?_⟩
            · rw [ej, Nat.pow_zero, Nat.mul_one]
              exact z3
            · rw [gI_sI, if_pos rfl, if_pos rfl]
              decide
        have w3 : gI (sI s1 11 6 (-127)) 6 3 = nI w := by rw [f11.1 6 3 (by decide)]; exact w2
        have t3 : gI (sI s1 11 6 (-127)) 7 3 = nI (t ||| denS A A) := by rw [f11.1 7 3 (by decide)]; exact t2
        have m3 : gZ (sI s1 11 6 (-127)) 15 12 = A.1 := ra2.1
        have fp2 : frP σ (sI s1 11 6 (-127)) := frP_trans fp (frP_R (a := 15) (frR_trans (frR_S fs) (frR_S f11)) (by decide))
        generalize sI s1 11 6 (-127) = s2 at *
        rw [m3, show (64 : Int32) = nI 64 from rfl]
        have sz := Loaded_Size ld (by decide)
        obtain ⟨σ2, pw, F, m1, m2, m3', m4⟩ := class_make s2 11 6 A.1 64 15 w _ false (-63) w3 hw (Or.inr (Or.inr rfl)) sz
        obtain ⟨r1, r2, r3, r4⟩ := SPz_rng (w := w) (m := A.1) (n := 64) (Or.inr (Or.inr rfl)) sz
        rw [m2]
        have g1 : frR 15 s2 (f_Real_set (f_Ctl_tell σ2 (nI (fraS w A).1)) 15 A.1 pw F) := frR_trans (frR_S m1) (frR_trans (frR_tell _ _ _) (frR_set _ _ _ _ _))
        have v1 : RaIs (f_Real_set (f_Ctl_tell σ2 (nI (fraS w A).1)) 15 A.1 pw F) 15 (A.1, (fraS w A).2) := RaIs_set m3' m4 ⟨r3, r4⟩
        have w4 : gI (f_Real_set (f_Ctl_tell σ2 (nI (fraS w A).1)) 15 A.1 pw F) 6 3 = nI w := by
          show gI σ2 6 3 = nI w
          rw [m1.1 6 3 (by decide)]
          exact w3
        have fl : (fraS w A).1 < 64 := r1
        have t4 : gI (f_Real_set (f_Ctl_tell σ2 (nI (fraS w A).1)) 15 A.1 pw F) 7 3 = nI (t ||| (denS A A ||| (fraS w A).1)) := by
          have e : gI (f_Real_set (f_Ctl_tell σ2 (nI (fraS w A).1)) 15 A.1 pw F) 7 3 = gI (f_Ctl_tell σ2 (nI (fraS w A).1)) 7 3 := rfl
          rw [e, tell_7, m1.1 7 3 (by decide), t3, nI_or _ _ (by have := or_lt64 htt dl; omega) (by omega), Nat.or_assoc]
        show ExtC σ (f_Maker_make (f_Size_loadTimes (f_Real_set (f_Ctl_tell σ2 (nI (fraS w A).1)) 15 A.1 pw F) 6 N 0) 11 6 (decide (expS A < 0)) (nI 64) 14) w t _
        generalize f_Real_set (f_Ctl_tell σ2 (nI (fraS w A).1)) 15 A.1 pw F = s3 at *
        obtain ⟨h3, u3, l1, l2⟩ := loadTimes_spec s3 6 N 0 (by decide)
        have fl3 := frS_szm s3 6 h3 0 false u3
        rw [l1]
        have ld3 : Loaded (szm s3 6 h3 0 false u3) 6 (uN N) 0 := by
          refine ⟨szm_9 _ _ _ _ _ _, szm_10 _ _ _ _ _ _, ?_⟩
          rw [szm_8, szm_11]
          rcases l2 with ⟨y1, y2, y3⟩ | ⟨y1, j, y2, y3, y4⟩
          · exact Or.inl ⟨uN_eq0.mp y1, y2, by rw [y3]; decide⟩
          · exact Or.inr ⟨y1, j, y2, y3, by rw [y4]; rfl⟩
        rw [av] at ld3
        have w5 : gI (szm s3 6 h3 0 false u3) 6 3 = nI w := by rw [fl3.1 6 3 (by decide)]; exact w4
        have t5 : gI (szm s3 6 h3 0 false u3) 7 3 = nI (t ||| (denS A A ||| (fraS w A).1)) := by rw [fl3.1 7 3 (by decide)]; exact t4
        generalize szm s3 6 h3 0 false u3 = s4 at *
        have sz3 := Loaded_Size ld3 (by decide)
        obtain ⟨σ3, pw3, F3, n1, n2, n3, n4⟩ := class_make s4 11 6 (decide (expS A < 0)) 64 14 w _ false 0 w5 hw (Or.inr (Or.inr rfl)) sz3
        obtain ⟨q1, q2, q3, q4⟩ := SPz_rng (w := w) (m := decide (expS A < 0)) (n := 64) (Or.inr (Or.inr rfl)) sz3
        rw [n2]
        have pl : (powS w A).1 < 64 := q1
        have g2 : frR 14 s3 (f_Real_set (f_Ctl_tell σ3 (nI (powS w A).1)) 14 (decide (expS A < 0)) pw3 F3) := frR_trans (frR_S fl3) (frR_trans (frR_S n1) (frR_trans (frR_tell _ _ _) (frR_set _ _ _ _ _)))
        refine ⟨frP_trans fp2 (frP_trans (frP_R g1 (by decide)) (frP_R g2 (by decide))), ?_, or_lt64 (or_lt64 dl pl) fl, fun _ => ⟨RaIs_set n3 n4 ⟨q3, q4⟩, RaIs_frR v1 g2 (by decide)⟩⟩
        have e : gI (f_Real_set (f_Ctl_tell σ3 (nI (powS w A).1)) 14 (decide (expS A < 0)) pw3 F3) 7 3 = gI (f_Ctl_tell σ3 (nI (powS w A).1)) 7 3 := rfl
        show gI (f_Real_set (f_Ctl_tell σ3 (nI (powS w A).1)) 14 (decide (expS A < 0)) pw3 F3) 7 3 = nI (t ||| (denS A A ||| (powS w A).1 ||| (fraS w A).1))
        rw [e, tell_7, n1.1 7 3 (by decide), t5, nI_or _ _ (by have := or_lt64 htt (or_lt64 dl fl); omega) (by omega), Nat.or_assoc, Nat.or_assoc, Nat.or_comm (fraS w A).1, ← Nat.or_assoc (denS A A)]
/-! the reference's side -/
def RgIs (τ : St) (i : Nat) (R : Ra) : Prop := ∃ p : Int32, gI τ 110 i = sgT R.1 + p ∧ p.toInt = R.2.1 ∧ uN (gJ τ 111 i) = R.2.2
theorem extract_M {τ : St} {w : Nat} {A : Re} (hA : RegIs τ 110 111 0 A) (hwd : gI τ 27 42 = nI w) (hw : w < 65536) : (f_MS_extract τ 0 1 2).1 = nI (extS w A).1 ∧ frM τ (f_MS_extract τ 0 1 2).2 ∧ (extS w A).1 < 64 ∧ (endsN w (extS w A).1 = false → RgIs (f_MS_extract τ 0 1 2).2 1 (extS w A).2.1 ∧ RgIs (f_MS_extract τ 0 1 2).2 2 (extS w A).2.2) := by
  have z2 : (2 : Int32) = nI 2 := rfl
  have j0 : jat 0 = 0 := by decide
  have j1 : jat 1 = 1 := by decide
  have n0 : f_MS_none 0 = false := by decide
  have n1 : f_MS_none 1 = false := by decide
  have n2 : f_MS_none 2 = false := by decide
  have n12 : ¬ (1 : Int32) = 2 := by decide
  obtain ⟨b1, b2, b3, b4, b5⟩ := begin_S hwd
  have hA2 := RegIs_keys hA b5
  have g26 : gI (sI τ 26 42 0) 26 42 ≤ 0 := by
    rw [gI_sI, if_pos rfl, if_pos rfl]
    decide
  -- the end: both registers
  have goal : ∀ (t2 : Int64 × Int32 × St) (R : Nat × Ra × Ra), SOut (f_MS_begin (sI τ 26 42 0)) t2.2.2 w (R.1, R.2.2) → (endsN w R.1 = false → ∃ p : Int32, t2.2.1 = sgT R.2.1.1 + p ∧ p.toInt = R.2.1.2.1 ∧ uN t2.1 = R.2.1.2.2) → (gI (if gZ t2.2.2 29 42 = true then sJ (sI (f_MS_keep t2.2.2 2) 110 (jat 1) t2.2.1) 111 (jat 1) t2.1 else t2.2.2) 28 42 = nI R.1 ∧ frM τ (if gZ t2.2.2 29 42 = true then sJ (sI (f_MS_keep t2.2.2 2) 110 (jat 1) t2.2.1) 111 (jat 1) t2.1 else t2.2.2) ∧ R.1 < 64 ∧ (endsN w R.1 = false → RgIs (if gZ t2.2.2 29 42 = true then sJ (sI (f_MS_keep t2.2.2 2) 110 (jat 1) t2.2.1) 111 (jat 1) t2.1 else t2.2.2) 1 R.2.1 ∧ RgIs (if gZ t2.2.2 29 42 = true then sJ (sI (f_MS_keep t2.2.2 2) 110 (jat 1) t2.2.1) 111 (jat 1) t2.1 else t2.2.2) 2 R.2.2)) := fun t2 R h g => by
    have ko := keep_S (τ := τ) (to := 2) (by decide) b1 h
    rw [j1]
    obtain ⟨h1, h2, h3, h4, h5⟩ := h
    rw [h4]
    cases he : endsN w R.1 with
    | true =>
      simp only [Bool.not_true, Bool.false_eq_true, if_false]
      exact ⟨h2, frM_trans b1 (frM_T h1), h3, fun q => by cases q⟩
    | false =>
      simp only [Bool.not_false, if_true]
      rw [z2]
      obtain ⟨k1, k2, k3, k4⟩ := ko
      obtain ⟨p, p1, p2, p3⟩ := g he
      refine ⟨k1, frM_trans k2 (frM_trans (frM_I _ 110 _ _ (by decide)) (frM_J _ 111 _ _ (by decide))), h3, fun _ => ⟨⟨p, ?_, p2, ?_⟩, ?_⟩⟩
      · rw [gI_sJ, gI_sI, if_pos rfl, if_pos rfl]
        exact p1
      · rw [gJ_sJ, if_pos rfl, if_pos rfl]
        exact p3
      · obtain ⟨x, x1, x2, x3⟩ := k4 he
        refine ⟨x, ?_, x2, ?_⟩
        · rw [gI_sJ, gI_sI, if_pos rfl, if_neg (by decide)]
          exact x1
        · rw [gJ_sJ, if_pos rfl, if_neg (by decide), gJ_sI]
          exact x3
  unfold f_MS_extract
  simp only [n0, n1, n2, n12, Bool.false_eq_true, if_false, g26, if_true]
  generalize f_MS_begin (sI τ 26 42 0) = s at *
  unfold extS
  rcases goes_n (can := true) j0 hA2 b2 hw b3 b4 with ⟨R, ρ, e1, e2, e3⟩ | ⟨ρ, e1, e2, e3, e4, e5⟩
  · have e1' : setS w A A false = some R := e1
    rw [e1', e2]
    simp only [Bool.false_eq_true, if_false]
    exact goal (gJ ρ 33 42, gI ρ 32 42, ρ) (R.1, R.2, R.2) e3 e3.2.2.2.2
  · have e1' : setS w A A false = none := e1
    rw [e1', e2]
    simp only [if_true]
    obtain ⟨-, -, d2, en⟩ := setS_none e1'
    have rA := RegIs_T hA2 e3
    have wd : gI ρ 27 42 = nI w := by rw [(e3 27 42 (by decide)).1]; exact b2
    have dl : denS A A < 64 := by omega
    have er := unitN_rng hA.2.2
    simp only [sinf_M j0 rA, snothing_M j0 rA]
    show gI _ 28 42 = nI (if isInf A.2.1 A.2.2 then _ else _ : Nat × Ra × Ra).1 ∧ _
    by_cases hi : isInf A.2.1 A.2.2 = true
    · simp only [hi, if_true, Option.map_none, Option.getD_none]
      have r1 : gI ρ 110 (jat 0) = sgT A.1 + nI A.2.1 := by rw [j0, rA.1]; exact top_sg A
      refine goal (-9223372036854775808, 32767, f_MS_answer ρ (gI ρ 110 (jat 0)) (gJ ρ 111 (jat 0))) (denS A A, (false, 32767, 9223372036854775808), asRa A) ?_ (fun _ => ⟨32767, (show (32767 : Int32) = sgT false + 32767 by decide), (show (32767 : Int32).toInt = 32767 by decide), (show uN (-9223372036854775808) = 9223372036854775808 by decide)⟩)
      show SOut s (f_MS_answer ρ (gI ρ 110 (jat 0)) (gJ ρ 111 (jat 0))) w _
      rw [r1]
      exact SOut_ans (P := (A.2.1 : Int)) e3 e4 dl en (nI_toInt (by have := rA.2.2; omega)) (by rw [j0]; exact rA.2.1)
    · have hi' : isInf A.2.1 A.2.2 = false := by simpa using hi
      by_cases hn : isNil A.2.1 A.2.2 = true
      · simp only [hi', hn, if_true, Bool.false_eq_true, if_false, Option.map_none, Option.getD_none]
        have tl := tell_S wd hw e4 dl 2 (by decide)
        have n4 : nI (2 ^ 2) = (4 : Int32) := rfl
        rw [n4, show (2 : Nat) ^ 2 = 4 from rfl] at tl
        rw [tl]
        simp only []
        have f1 : frT s (sI ρ 28 42 (nI (denS A A ||| 4))) := frT_trans e3 (frT_I _ 28 42 _ (by decide))
        have t1 : gI (sI ρ 28 42 (nI (denS A A ||| 4))) 28 42 = nI (denS A A ||| 4) := by simp [gI_sI]
        have e4w : endsN w (denS A A ||| 4) = decide (¬ w / 4 % 2 = 1) := by
          rw [endsN_or, en]
          unfold endsN
          by_cases q : w / 4 % 2 = 1
          · simp [q]
          · have : w / 4 % 2 = 0 := by omega
            simp [this]
        have ll : denS A A ||| 4 < 64 := or_lt64 dl (by decide)
        have rA1 := RegIs_T rA (frT_I ρ 28 42 (nI (denS A A ||| 4)) (by decide))
        by_cases q : w / 4 % 2 = 1
        · rw [decide_eq_true q, if_pos rfl, sminus_M j0 rA1]
          refine goal (-9223372036854775808, 65535, f_MS_answer (sI ρ 28 42 (nI (denS A A ||| 4))) (if A.1 = true then 32768 else 0) 0) (denS A A ||| 4, (true, 32767, 9223372036854775808), (A.1, 0, 0)) ?_ (fun _ => ⟨32767, (show (65535 : Int32) = sgT true + 32767 by decide), (show (32767 : Int32).toInt = 32767 by decide), (show uN (-9223372036854775808) = 9223372036854775808 by decide)⟩)
          show SOut s (f_MS_answer (sI ρ 28 42 (nI (denS A A ||| 4))) (if A.1 = true then 32768 else 0) 0) w _
          have e : (if A.1 = true then (32768 : Int32) else 0) = sgT A.1 + 0 := by
            unfold sgT
            cases A.1 <;> decide
          rw [e]
          exact SOut_ans (P := 0) f1 t1 ll (by rw [e4w]; exact decide_eq_false (fun z => z q)) (by decide) (by decide)
        · rw [decide_eq_false q]
          simp only [Bool.false_eq_true, if_false]
          refine goal (-9223372036854775808, 65535, sI ρ 28 42 (nI (denS A A ||| 4))) (denS A A ||| 4, (true, 32767, 9223372036854775808), (A.1, 0, 0)) ?_ (fun z => ?_)
          · exact SOut_end f1 t1 ll (by rw [e4w]; exact decide_eq_true q) e5
          · have z' : endsN w (denS A A ||| 4) = false := z
            rw [e4w, decide_eq_true q] at z'
            cases z'
      · have hn' : isNil A.2.1 A.2.2 = false := by simpa using hn
        simp only [hi', hn', Bool.false_eq_true, if_false, Option.map_none, Option.getD_none]
        have hF : A.2.2 ≠ 0 := fun z => by
          unfold isInf at hi
          unfold isNil at hn
          by_cases p : A.2.1 = 32767 <;> simp [p, z] at hi hn
        obtain ⟨v, f, c1, c2, c3, c4, c5⟩ := apart_log j0 rA hF
        rw [c1]
        have g35 : gI (sI (sJ ρ 34 42 v) 35 42 f) 35 42 = f := by simp [gI_sI]
        have g34 : gJ (sI (sJ ρ 34 42 v) 35 42 f) 34 42 = v := by simp [gJ_sI, gJ_sJ]
        rw [g35, g34]
        have f2 := frT_trans e3 (apart_fr (τ := ρ) v f)
        have wd2 : gI (sI (sJ ρ 34 42 v) 35 42 f) 27 42 = nI w := by rw [gI_sI, if_neg (by decide)]; exact wd
        have t2 : gI (sI (sJ ρ 34 42 v) 35 42 f) 28 42 = nI (denS A A) := by rw [gI_sI, if_neg (by decide)]; exact e4
        have rA2 := RegIs_T rA (apart_fr (τ := ρ) v f)
        generalize sI (sJ ρ 34 42 v) 35 42 f = s3 at *
        have c4' : f.toInt = expS A := c4
        obtain ⟨av, an⟩ := abs_l c4' (by unfold expS; omega)
        simp only [an]
        generalize (if 0 ≤ f then Int32.toInt64 f else Int32.toInt64 (-f)) = N at *
        have mk := SOut_make (s := s) (m := decide (expS A < 0)) (f := N) (U := 0) (u := 0) (R := powS w A) f2 wd2 hw t2 dl en rfl (by decide) (by unfold powS; rw [av])
        have pt := SPz_told w 64 (decide (expS A < 0)) (expS A).natAbs false 0
        have pt' : (powS w A).1 < 56 ∧ (powS w A).1 % 8 = 0 := pt
        have ft : (fraS w A).1 < 56 ∧ (fraS w A).1 % 8 = 0 := SPz_told w 64 A.1 _ false (-63)
        have en8 : ∀ x, x % 8 = 0 → endsN w x = false := fun x hx => by
          have := ends8 (w := w) (d0 := 0) hx (by decide)
          rw [Nat.zero_add] at this
          rw [this, ends0]
        have en1 : endsN w (denS A A ||| (powS w A).1) = false := by rw [endsN_or, en, en8 _ pt'.2]; rfl
        generalize f_MS_make s3 (decide (expS A < 0)) N 0 = s4 at *
        obtain ⟨k1, k2, k3, k4, k5⟩ := mk
        have rA3 := RegIs_T hA2 k1
        rw [sminus_M j0 rA3]
        have wd3 : gI s4 27 42 = nI w := by rw [(k1 27 42 (by decide)).1]; exact b2
        have mk2 := SOut_make (s := s) (m := A.1) (f := v) (U := -63) (u := -63) (R := fraS w A) k1 wd3 hw k2 k3 en1 (by decide) (by decide) (by unfold fraS; rw [c2])
        exact goal (gJ s4 33 42, gI s4 32 42, f_MS_make s4 A.1 v (-63)) (denS A A ||| (powS w A).1 ||| (fraS w A).1, (decide (expS A < 0), (powS w A).2), (A.1, (fraS w A).2)) mk2 (fun _ => k5 en1)
