/-! the class's operation: settled, or found and made -/
theorem root_zero (σ : St) (o : Nat) (hX : gJ σ 8 o = 0) (hu : -100000 ≤ (gI σ 11 o).toInt ∧ (gI σ 11 o).toInt ≤ 100000) : frS σ (f_Size_root σ o) ∧ gJ (f_Size_root σ o) 8 o = 0 ∧ gJ (f_Size_root σ o) 9 o = 0 := by
  generalize hob : (if gI σ 11 o &&& 1 = 0 then false else true) = ob
  obtain ⟨rL, rH, bits, h, l, R, rest, c1, c2, c3, c4, c5⟩ := root_loop σ o ob (gJ σ 8 o)
  rw [hX, show uN 0 = 0 from rfl, Nat.zero_mul] at c4
  have R0 : R = 0 := by
    have : R * R = 0 := by omega
    rcases Nat.mul_eq_zero.mp this with q | q <;> exact q
  rw [R0] at c2
  generalize hm : (if rH = 0 then if rL = 0 then false else true else true) = M
  obtain ⟨t8, ht8, h8⟩ : ∃ t8 : Int32, (if ob = true then (67 : Int32) else 68) = t8 ∧ (t8.toInt = 67 ∨ t8.toInt = 68) := by
    cases ob
    · exact ⟨68, rfl, Or.inr rfl⟩
    · exact ⟨67, rfl, Or.inl rfl⟩
  have e64 : (64 : Int32).toInt = 64 := by decide
  have u1 : (gI σ 11 o + 64).toInt = (gI σ 11 o).toInt + 64 := by rw [i32_addT (by omega) (by omega), e64]
  have u2 : (gI σ 11 o + 64 - t8).toInt = (gI σ 11 o).toInt + 64 - t8.toInt := by rw [i32_subT (by omega) (by omega), u1]
  have u3 : (jshr (gI σ 11 o + 64 - t8) 1).toInt = ((gI σ 11 o).toInt + 64 - t8.toInt) / 2 := by
    have hh := pk_shr (gI σ 11 o + 64 - t8) ((1 : Int32) &&& 31) 1 (by decide)
    unfold jshr
    rw [hh, Int.shiftRight_eq_div_pow, u2]
    rfl
  obtain ⟨h1, l1, u4, d1, d2⟩ := normalise_szm σ o h l M (jshr (gI σ 11 o + 64 - t8) 1) (by omega)
  rw [c2] at d2
  have st : f_Size_root σ o = szm σ o h1 l1 M u4 := by
    rw [← d1]
    unfold f_Size_root
    have st : sJ (sJ σ 8 o 0) 9 o 0 = rts σ o 0 0 := rfl
    rw [hX] at c1
    simp only [hob, st, hX, c1, hm, ht8]
    congr 1
  obtain ⟨f1, g8, g9, -, -⟩ := frame_1 st
  refine ⟨f1, ?_, ?_⟩
  · rcases d2 with ⟨-, d3, d4⟩ | ⟨d3, j, d4, d5, d6⟩
    · rw [g8, d3]
    · rw [Nat.zero_mul] at d5
      omega
  · rcases d2 with ⟨-, d3, d4⟩ | ⟨d3, j, d4, d5, d6⟩
    · rw [g9, d4]
    · rw [Nat.zero_mul] at d5
      omega
theorem low_split (a b : Re) : unitN a.2.1 = lowS a b + ((unitN a.2.1 - lowS a b).toNat : Int) ∧ unitN b.2.1 = lowS a b + ((unitN b.2.1 - lowS a b).toNat : Int) ∧ (lowS a b = unitN a.2.1 ∨ lowS a b = unitN b.2.1) := by
  unfold lowS
  split <;> omega
theorem bne_if (a b : Bool) : (if a = b then false else true) = (a != b) := by cases a <;> cases b <;> rfl
theorem not_if (a : Bool) : (if a = true then false else true) = !a := by cases a <;> rfl
theorem find_N {σ : St} {K w a b : Nat} {A B : Re} (hK : K ≤ 4) (hs : gI σ 6 3 = nI w) (hw : w < 65536) (ha : RealIs σ a A.1 A.2.1 A.2.2) (hb : RealIs σ b B.1 B.2.1 B.2.2) (hq : K = 3 → B.2.2 ≠ 0) :
    ∃ σ1 : St, f_Oper_findSize σ (nI K) a b = ((numS K w A B).1, σ1) ∧ frS σ σ1 ∧ SizeIs σ1 4 (numS K w A B).2.1 (numS K w A B).2.2.1 (numS K w A B).2.2.2 := by
  have k5 : K = 0 ∨ K = 1 ∨ K = 2 ∨ K = 3 ∨ K = 4 := by omega
  obtain ⟨f0, la, lb⟩ := load2 σ a b _ _ _ _ _ _ ha hb
  have ea := unitN_rng ha.2.2.2
  have eb := unitN_rng hb.2.2.2
  obtain ⟨x1, x2, x3⟩ := low_split A B
  have hs2 : gI (f_Size_load (f_Size_load σ 4 a) 5 b) 6 3 = nI w := by rw [f0.1 6 3 (by decide)]; exact hs
  have ma : gZ (f_Size_load (f_Size_load σ 4 a) 5 b) 15 a = A.1 := by rw [f0.2.2 15 a (by decide) (by decide)]; exact ha.1
  have mb : gZ (f_Size_load (f_Size_load σ 4 a) 5 b) 15 b = B.1 := by rw [f0.2.2 15 b (by decide) (by decide)]; exact hb.1
  have bB := uN_lt2 (gJ σ 17 b)
  rw [hb.2.2.1] at bB
  unfold f_Oper_findSize
  simp only []
  generalize f_Size_load (f_Size_load σ 4 a) 5 b = ρ at *
  unfold numS shS
  rcases k5 with rfl | rfl | rfl | rfl | rfl
  · obtain ⟨σ1, c1, c2, c3⟩ := addWithSigns_spec ρ A.1 B.1 A.2.2 B.2.2 w _ _ _ _ _ hs2 hw la lb ea eb x1 x2 x3
    refine ⟨σ1, ?_, frS_trans f0 c2, c3⟩
    have c0 : nI 0 = (0 : Int32) := rfl
    simp only [c0, if_true, ma, mb, c1]
  · obtain ⟨σ1, c1, c2, c3⟩ := addWithSigns_spec ρ A.1 (!B.1) A.2.2 B.2.2 w _ _ _ _ _ hs2 hw la lb ea eb x1 x2 x3
    refine ⟨σ1, ?_, frS_trans f0 c2, c3⟩
    have c0 : ¬ nI 1 = (0 : Int32) := by decide
    have d1 : nI 1 = (1 : Int32) := rfl
    simp only [c0, if_false]
    simp only [d1, if_true, ma, mb, not_if, c1]
    simp
  · obtain ⟨c2, c3⟩ := mul_exact la lb ea eb
    refine ⟨f_Size_multiply ρ 4 5, ?_, frS_trans f0 c2, c3⟩
    have c0 : ¬ nI 2 = (0 : Int32) := by decide
    have d1 : ¬ nI 2 = (1 : Int32) := by decide
    have d2 : nI 2 = (2 : Int32) := rfl
    have m1 : gZ (f_Size_multiply ρ 4 5) 15 a = A.1 := by rw [c2.2.2 15 a (by decide) (by decide)]; exact ma
    have m2 : gZ (f_Size_multiply ρ 4 5) 15 b = B.1 := by rw [c2.2.2 15 b (by decide) (by decide)]; exact mb
    simp only [c0, d1, if_false]
    simp only [d2, if_true, m1, m2, bne_if]
    simp
  · obtain ⟨c2, c3⟩ := div_exact la lb ea eb (hq rfl) bB
    refine ⟨f_Size_divide ρ 4 5, ?_, frS_trans f0 c2, c3⟩
    have c0 : ¬ nI 3 = (0 : Int32) := by decide
    have d1 : ¬ nI 3 = (1 : Int32) := by decide
    have d2 : ¬ nI 3 = (2 : Int32) := by decide
    have d3 : nI 3 = (3 : Int32) := rfl
    have m1 : gZ (f_Size_divide ρ 4 5) 15 a = A.1 := by rw [c2.2.2 15 a (by decide) (by decide)]; exact ma
    have m2 : gZ (f_Size_divide ρ 4 5) 15 b = B.1 := by rw [c2.2.2 15 b (by decide) (by decide)]; exact mb
    simp only [c0, d1, d2, if_false]
    simp only [d3, if_true, m1, m2, bne_if]
    simp
  · have fr : frS ρ (f_Size_root ρ 4) ∧ SizeIs (f_Size_root ρ 4) 4 (radS A).sqrt (decide (radS A - (radS A).sqrt * (radS A).sqrt ≠ 0)) ((unitN A.2.1 - oddS (unitN A.2.1)) / 2 - 70) := by
      by_cases z : A.2.2 = 0
      · have ra := unit_rng la ea
        rcases la.2.2 with ⟨a1, a2, a3⟩ | ⟨a1, j, a2, a3, a4⟩
        · obtain ⟨f1, g1, g2⟩ := root_zero ρ 4 a2 (by omega)
          refine ⟨f1, Or.inl ⟨?_, g1, g2⟩⟩
          unfold radS
          rw [z, Nat.zero_mul]
          decide
        · rw [z, Nat.zero_mul] at a3
          omega
      · have l1 := Nat.sqrt_le (radS A)
        have l2 := Nat.lt_succ_sqrt (radS A)
        have l3 : (radS A).sqrt.succ * (radS A).sqrt.succ = (radS A).sqrt * (radS A).sqrt + 2 * (radS A).sqrt + 1 := by
          generalize (radS A).sqrt = r
          show (r + 1) * (r + 1) = _
          grind
        refine root_exact la ea z (oddS (unitN A.2.1)) (radS A).sqrt _ ?_ ?_ ?_
        · unfold oddS
          omega
        · show _ = radS A
          omega
        · omega
    obtain ⟨c2, c3⟩ := fr
    refine ⟨f_Size_root ρ 4, ?_, frS_trans f0 c2, c3⟩
    have c0 : ¬ nI 4 = (0 : Int32) := by decide
    have d1 : ¬ nI 4 = (1 : Int32) := by decide
    have d2 : ¬ nI 4 = (2 : Int32) := by decide
    have d3 : ¬ nI 4 = (3 : Int32) := by decide
    have m1 : gZ (f_Size_root ρ 4) 15 a = A.1 := by rw [c2.2.2 15 a (by decide) (by decide)]; exact ma
    simp only [c0, d1, d2, d3, if_false, m1]
    simp
/-- what an operation leaves: nothing else is changed, what is told, and its answer where it does not end -/
def Outc (σ τ : St) (w t a4 : Nat) (R : Nat × Ra) : Prop := frR a4 σ τ ∧ gI τ 7 3 = nI (t ||| R.1) ∧ R.1 < 64 ∧ (endsN w R.1 = false → gZ τ 15 a4 = R.2.1 ∧ (gI τ 16 a4).toInt = R.2.2.1 ∧ uN (gJ τ 17 a4) = R.2.2.2 ∧ 0 ≤ R.2.2.1 ∧ R.2.2.1 ≤ 32767)
theorem Outc_set {σ ρ : St} {w t a4 T : Nat} {m : Bool} {p : Int32} {f : Int64} {P : Int} {F : Nat} (hf : frR a4 σ ρ) (ht : gI ρ 7 3 = nI t) (htt : t < 64) (hT : T < 64) (hp : p.toInt = P) (hF : uN f = F) (hP : 0 ≤ P ∧ P ≤ 32767) : Outc σ (f_Real_set (f_Ctl_tell ρ (nI T)) a4 m p f) w t a4 (T, m, P, F) := by
  obtain ⟨g1, g2, g3, g4, g5⟩ := set_get (f_Ctl_tell ρ (nI T)) a4 m p f
  refine ⟨frR_trans hf (frR_trans (frR_tell _ _ _) (frR_set _ _ _ _ _)), ?_, hT, fun _ => ⟨g1, ?_, ?_, hP.1, hP.2⟩⟩
  · rw [g4, tell_7, ht, nI_or _ _ (by omega) (by omega)]
  · rw [g2]
    exact hp
  · rw [g3]
    exact hF
theorem nI_0e : nI 0 = (0 : Int32) := rfl
theorem operate_C {σ : St} {K w t a b a4 : Nat} {A B : Re} (hK : K ≤ 4) (hs : gI σ 6 3 = nI w) (hw : w < 65536) (ht : gI σ 7 3 = nI t) (htt : t < 64) (hne : endsN w t = false) (ha : RealIs σ a A.1 A.2.1 A.2.2) (hb : RealIs σ b B.1 B.2.1 B.2.2) (n1 : a ≠ a4) (n2 : b ≠ a4) :
    Outc σ (f_Oper_operate σ (nI K) a b a4) w t a4 (opS K w A B) := by
  have cb := cannotBe_N hs hw hK ha hb
  unfold f_Oper_operate f_Ctl_settles f_Ctl_settles_b49
  simp only [cb]
  unfold opS
  rcases noNumber_N (a4 := a4) ha hb with ⟨q1, q2⟩ | ⟨q1, x, q2, q3, q4⟩
  · simp only [q1, q2, Bool.false_eq_true, if_false]
    by_cases c1 : wrongS K w A B = true
    · simp only [c1, if_true]
      exact Outc_set (T := 1) (frR_refl _ _) ht htt (by decide) (by decide) (by decide) (by decide)
    · have c1' : wrongS K w A B = false := by simpa using c1
      simp only [c1', Bool.false_eq_true, if_false]
      -- denormal ones
      have dn : (if f_Real_kind σ a = 1 then f_Ctl_tell σ 2 else if f_Real_kind σ b = 1 then f_Ctl_tell σ 2 else σ) = f_Ctl_tell σ (nI (denS A B)) := by
        simp only [den_N ha, den_N hb]
        unfold denS
        cases isDen A.2.1 A.2.2 <;> cases isDen B.2.1 B.2.2 <;> first | rfl | (simp [nI_0e, tell_0]; done)
      simp only [dn]
      have d2 : denS A B = 0 ∨ denS A B = 2 := by unfold denS; split <;> simp
      have f1 : frR a4 σ (f_Ctl_tell σ (nI (denS A B))) := frR_tell _ _ _
      have s1 : gI (f_Ctl_tell σ (nI (denS A B))) 6 3 = nI w := hs
      have t1 : gI (f_Ctl_tell σ (nI (denS A B))) 7 3 = nI (t ||| denS A B) := by rw [tell_7, ht, nI_or _ _ (by omega) (by omega)]
      have lt1 : t ||| denS A B < 64 := or_lt64 htt (by omega)
      have en := ends_N s1 hw t1 lt1
      have ra := RealIs_frR ha f1 n1
      have rb := RealIs_frR hb f1 n2
      rw [endsN_or, hne, Bool.false_or] at en
      have e2 : endsN w (denS A B) = decide (denS A B = 2 ∧ w / 2 % 2 = 0) := by
        unfold endsN
        rcases d2 with q | q <;> rw [q] <;> simp
      rw [e2] at en
      simp only [en]
      by_cases c2 : denS A B = 2 ∧ w / 2 % 2 = 0
      · simp only [c2, decide_true, if_true, and_self]
        refine ⟨?_, ?_, (show (2 : Nat) < 64 by decide), fun q => ?_⟩
        · have := f1
          rw [c2.1] at this
          exact this
        · have := t1
          rw [c2.1] at this
          exact this
        · have : endsN w 2 = true := by
            have := e2
            rw [c2.1] at this
            rw [this]
            simp [c2.2]
          rw [this] at q
          cases q
      · simp only [c2, decide_false, Bool.false_eq_true, if_false]
        have k3 : (nI K = 3) ↔ K = 3 := nI_eq (b := 3) (by omega) (by decide)
        have or_add2 : ∀ T : Nat, T % 4 = 0 → denS A B ||| T = denS A B + T := fun T hT => by
          rcases d2 with q | q <;> rw [q]
          · simp
          · have e : T = T / 4 * 2 ^ 2 := by omega
            rw [Nat.or_comm, e, or_add (by decide)]
            omega
        unfold f_Oper_operate_b73 f_Oper_operate_b87
        simp only [k3, nil_N rb, inf_N ra, inf_N rb, ra.1, rb.1, bne_if]
        generalize hρ : f_Ctl_tell σ (nI (denS A B)) = ρ at *
        -- infinite ones
        have infc : (isInf A.2.1 A.2.2 || isInf B.2.1 B.2.2) = true → Outc σ (f_Oper_answerInfinite ρ (nI K) a b a4) w t a4 (denS A B, infAns K A B) := fun hi => by
          have go : ∀ (m : Bool) (p : Int32) (f : Int64) (P : Int) (F : Nat), p.toInt = P → uN f = F → 0 ≤ P ∧ P ≤ 32767 → Outc σ (f_Real_set ρ a4 m p f) w t a4 (denS A B, m, P, F) := fun m p f P F h1 h2 h3 => by
            rw [← hρ]
            exact Outc_set (frR_refl _ _) ht htt (by omega) h1 h2 h3
          have k0 : (nI K = 0) ↔ K = 0 := nI_eq (b := 0) (by omega) (by decide)
          have k1 : (nI K = 1) ↔ K = 1 := nI_eq (b := 1) (by omega) (by decide)
          unfold f_Oper_answerInfinite f_Oper_answerInfinite_b9 f_Oper_answerInfinite_b89 infAns
          simp only [k0, k1, k3, inf_N ra, ra.1, rb.1, bne_if]
          by_cases j0 : K = 0
          · simp only [j0, if_true, true_or]
            exact go _ _ _ _ _ (by decide) (by decide) (by decide)
          · by_cases j1 : K = 1
            · simp only [j1, if_true, or_true, show ¬ ((1 : Nat) = 0) by decide, if_false]
              exact go _ _ _ _ _ (by decide) (by decide) (by decide)
            · by_cases j3 : K = 3
              · simp only [j3, show ¬ ((3 : Nat) = 0) by decide, show ¬ ((3 : Nat) = 1) by decide, if_false, if_true, or_self, true_and]
                by_cases jf : isInf A.2.1 A.2.2 = true
                · simp only [jf, if_true, Bool.true_eq_false, if_false]
                  exact go _ _ _ _ _ (by decide) (by decide) (by decide)
                · have jf' : isInf A.2.1 A.2.2 = false := by simpa using jf
                  simp only [jf', Bool.false_eq_true, if_false, if_true]
                  exact go _ _ _ _ _ (by decide) (by decide) (by decide)
              · simp only [j0, j1, j3, if_false, or_self, false_and]
                exact go _ _ _ _ _ (by decide) (by decide) (by decide)
        have numc : isInf A.2.1 A.2.2 = false → isInf B.2.1 B.2.2 = false → (K = 3 → isNil B.2.1 B.2.2 = false) → Outc σ (f_Maker_make (f_Oper_findSize ρ (nI K) a b).2 10 4 (f_Oper_findSize ρ (nI K) a b).1 (f_Ctl_digits (f_Oper_findSize ρ (nI K) a b).2) a4) w t a4 (denS A B + (SPz w (digitsOf w) (numS K w A B).1 (numS K w A B).2.1 (numS K w A B).2.2.1 (numS K w A B).2.2.2).1, ((numS K w A B).1, (SPz w (digitsOf w) (numS K w A B).1 (numS K w A B).2.1 (numS K w A B).2.2.1 (numS K w A B).2.2.2).2)) := fun i1 i2 i3 => by
          have hq : K = 3 → B.2.2 ≠ 0 := fun hk z => by
            have h3 := i3 hk
            have q0 := q1
            rw [z] at h3 i2 q0
            unfold isNil at h3
            unfold isInf at i2
            simp at h3 i2
            omega
          obtain ⟨σ1, r1, r2, r3⟩ := find_N hK s1 hw ra rb hq
          have s2 : gI σ1 6 3 = nI w := by rw [r2.1 6 3 (by decide)]; exact s1
          have nd : digitsOf w = 24 ∨ digitsOf w = 53 ∨ digitsOf w = 64 := by
            unfold digitsOf
            (repeat' split) <;> simp
          rw [r1]
          simp only [digits_eq s2 hw]
          obtain ⟨σ2, pw, F, m1, m2, m3, m4⟩ := class_make σ1 10 4 (numS K w A B).1 (digitsOf w) a4 w _ _ _ s2 hw nd r3
          obtain ⟨g1, g2, g3, g4⟩ := SPz_rng (w := w) (m := (numS K w A B).1) nd r3
          rw [m2]
          generalize SPz w (digitsOf w) (numS K w A B).1 (numS K w A B).2.1 (numS K w A B).2.2.1 (numS K w A B).2.2.2 = Z at *
          have t2 : gI σ2 7 3 = nI (t ||| denS A B) := by rw [m1.1 7 3 (by decide), r2.1 7 3 (by decide)]; exact t1
          have o := Outc_set (σ := σ) (ρ := σ2) (w := w) (a4 := a4) (T := Z.1) (m := (numS K w A B).1) (frR_trans f1 (frR_trans (frR_S r2) (frR_S m1))) t2 lt1 g1 m3 m4 ⟨g3, g4⟩
          have lt2 : denS A B + Z.1 < 64 := by
            rw [← or_add2 Z.1 (by omega)]
            exact or_lt64 (by omega) g1
          refine ⟨o.1, ?_, lt2, fun q => ?_⟩
          · rw [o.2.1, ← or_add2 Z.1 (by omega), Nat.or_assoc]
          · refine o.2.2.2 ?_
            rw [← or_add2 Z.1 (by omega), endsN_or] at q
            cases h : endsN w Z.1
            · rfl
            · rw [h] at q
              simp at q
        by_cases z3 : K = 3 ∧ isNil B.2.1 B.2.2 = true ∧ isInf A.2.1 A.2.2 = false
        · obtain ⟨z4, z5, z6⟩ := z3
          simp only [z4, z5, z6, if_true, Bool.false_eq_true, if_false, and_self]
          have m1 : gZ (f_Ctl_tell ρ 4) 15 a = A.1 := ra.1
          have m2 : gZ (f_Ctl_tell ρ 4) 15 b = B.1 := rb.1
          rw [m1, m2, ← hρ, show (4 : Int32) = nI 4 from rfl, tell_tell, nI_or _ _ (by omega) (by decide), or_add2 4 (by decide)]
          exact Outc_set (frR_refl _ _) ht htt (by omega) (by decide) (by decide) (by decide)
        · rw [if_neg z3]
          have same : (if K = 3 then if isNil B.2.1 B.2.2 = true then if isInf A.2.1 A.2.2 = true then (if isInf A.2.1 A.2.2 = true then f_Oper_answerInfinite ρ (nI K) a b a4 else if isInf B.2.1 B.2.2 = true then f_Oper_answerInfinite ρ (nI K) a b a4 else f_Maker_make (f_Oper_findSize ρ (nI K) a b).2 10 4 (f_Oper_findSize ρ (nI K) a b).1 (f_Ctl_digits (f_Oper_findSize ρ (nI K) a b).2) a4) else f_Real_setInfinite (f_Ctl_tell ρ 4) a4 (gZ (f_Ctl_tell ρ 4) 15 a != gZ (f_Ctl_tell ρ 4) 15 b) else (if isInf A.2.1 A.2.2 = true then f_Oper_answerInfinite ρ (nI K) a b a4 else if isInf B.2.1 B.2.2 = true then f_Oper_answerInfinite ρ (nI K) a b a4 else f_Maker_make (f_Oper_findSize ρ (nI K) a b).2 10 4 (f_Oper_findSize ρ (nI K) a b).1 (f_Ctl_digits (f_Oper_findSize ρ (nI K) a b).2) a4) else (if isInf A.2.1 A.2.2 = true then f_Oper_answerInfinite ρ (nI K) a b a4 else if isInf B.2.1 B.2.2 = true then f_Oper_answerInfinite ρ (nI K) a b a4 else f_Maker_make (f_Oper_findSize ρ (nI K) a b).2 10 4 (f_Oper_findSize ρ (nI K) a b).1 (f_Ctl_digits (f_Oper_findSize ρ (nI K) a b).2) a4)) = (if isInf A.2.1 A.2.2 = true then f_Oper_answerInfinite ρ (nI K) a b a4 else if isInf B.2.1 B.2.2 = true then f_Oper_answerInfinite ρ (nI K) a b a4 else f_Maker_make (f_Oper_findSize ρ (nI K) a b).2 10 4 (f_Oper_findSize ρ (nI K) a b).1 (f_Ctl_digits (f_Oper_findSize ρ (nI K) a b).2) a4) := by
            by_cases y1 : K = 3
            · by_cases y2 : isNil B.2.1 B.2.2 = true
              · by_cases y3 : isInf A.2.1 A.2.2 = true
                · simp only [y1, y2, y3, if_true]
                · exact absurd ⟨y1, y2, by simpa using y3⟩ z3
              · rw [if_pos y1, if_neg y2]
            · rw [if_neg y1]
          rw [same]
          by_cases i1 : isInf A.2.1 A.2.2 = true
          · simp only [i1, if_true, Bool.true_or]
            exact infc (by simp [i1])
          · have i1' : isInf A.2.1 A.2.2 = false := by simpa using i1
            by_cases i2 : isInf B.2.1 B.2.2 = true
            · simp only [i1', i2, if_true, Bool.false_eq_true, if_false, Bool.or_true]
              exact infc (by simp [i2])
            · have i2' : isInf B.2.1 B.2.2 = false := by simpa using i2
              simp only [i1', i2', Bool.false_eq_true, if_false, Bool.or_self]
              refine numc i1' i2' (fun hk => ?_)
              cases hn : isNil B.2.1 B.2.2
              · rfl
              · exact absurd ⟨hk, hn, i1'⟩ z3
  · simp only [q1, q4, if_true]
    have e : f_Ctl_tell (f_Real_take σ a4 x) 1 = f_Real_set (f_Ctl_tell σ (nI 1)) a4 (gZ σ 15 x) (gI σ 16 x) (gJ σ 17 x) := by
      rw [take_set]
      apply St_ext <;> intro k y <;> simp only [f_Ctl_tell, f_Real_set, gI_sI, gI_sJ, gI_sZ, gJ_sI, gJ_sJ, gJ_sZ, gZ_sI, gZ_sJ, gZ_sZ, show (1 : Int32) = nI 1 from rfl] <;> grind
    rw [e, q3.1]
    refine Outc_set (P := (((nanS A B).2.1 : Nat) : Int)) (frR_refl _ _) ht htt (by decide) ?_ q3.2.2.1 ?_
    · rw [q3.2.1, nI_toInt (by have := q3.2.2.2; omega)]
    · have h : (nanS A B).2.1 ≤ 32767 := q3.2.2.2
      omega
