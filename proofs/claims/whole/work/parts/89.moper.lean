/-! the reference's operation as a whole -/
theorem work6_M {τ : St} {w : Nat} {A B : Re} (hwd : gI τ 16 35 = nI w) (hw : w < 65536) (hA : OpIs τ 0 A.1 A.2.1 A.2.2) (hB : OpIs τ 1 B.1 B.2.1 B.2.2) (na : isNan A.2.1 A.2.2 = false) (ht : gI τ 21 35 = nI 0) (hst : gZ τ 22 35 = false) : WOut τ (f_MO_work τ (nI 6)) w (opS 4 w A A) := by
  have j0 : jat 0 = 0 := by decide
  have l6 : (6 : Int32) ≤ nI 6 := by decide
  have n6 : nI 6 = (6 : Int32) := rfl
  have e0 : endsN w 0 = false := by unfold endsN; simp
  have wrg : f_MO_isWrong τ (nI 6) = wrongS 4 w A A := (wrong_M (o := 6) (A := A) (B := B) (by decide) hwd hw hA hB).trans rfl
  -- behind the denormal ones
  have b69 : ∀ (x : St) (d0 : Nat), gI x 16 35 = nI w → OpIs x 0 A.1 A.2.1 A.2.2 → gI x 21 35 = nI d0 → (d0 = 0 ∨ d0 = 2) → gZ x 22 35 = false → endsN w d0 = false → wrongS 4 w A A = false → WOut x (f_MO_work_b69 (nI 6) false x) w (tailS 4 w A A d0) := fun x d0 hwd hA ht hd hst he hwr => by
    have c4 : ¬ (nI 6 = 4) := by decide
    have c5 : ¬ (nI 6 = 5) := by decide
    have c3 : ¬ (nI 6 = 3) := by decide
    have l3 : (3 : Int32) ≤ nI 6 := by decide
    unfold f_MO_work_b69 f_MO_work_b150 f_MO_work_b170 f_MO_work_b268 tailS
    simp only [c4, c5, if_false, Bool.false_eq_true, endless_M j0 hA, n6, if_true, show ¬ ((4 : Nat) = 3) by decide, false_and, show ¬ ((6 : Int32) = 4) by decide, show ¬ ((6 : Int32) = 5) by decide, show (3 : Int32) ≤ 6 by decide, show ¬ ((6 : Int32) = 3) by decide]
    by_cases ia : isInf A.2.1 A.2.2 = true
    · simp only [ia, if_true, Bool.or_self]
      have e : infAns 4 A A = (false, 32767, 9223372036854775808) := by
        unfold infAns
        have : (A.1 != A.1) = false := by cases A.1 <;> rfl
        simp [this]
      rw [e]
      exact WOut_ans ht (by omega) hst he (by decide) (by decide)
    · have ia' : isInf A.2.1 A.2.2 = false := by simpa using ia
      simp only [ia', Bool.false_eq_true, if_false, Bool.or_self]
      obtain ⟨q1, q2⟩ := SPz_told w (digitsOf w) (numS 4 w A A).1 (numS 4 w A A).2.1 (numS 4 w A A).2.2.1 (numS 4 w A A).2.2.2
      refine WOut_made hst hd he ?_ q1 q2
      have pa := not_inf_P na ia' hA.2.2.1
      refine root_M hA pa (fun z => ?_) hwd hw ht
      unfold wrongS at hwr
      have nn : isNil A.2.1 A.2.2 = false := by
        unfold isNil
        simp [z]
      rw [nn] at hwr
      cases h : A.1
      · rfl
      · rw [h] at hwr
        simp at hwr
  unfold f_MO_work f_MO_work_b60
  simp only [l6, if_true, wrg, denorm_M j0 hA, Bool.false_eq_true, if_false]
  have hnn : (isNan A.2.1 A.2.2 || isNan A.2.1 A.2.2) = false := by rw [na]; rfl
  by_cases wr : wrongS 4 w A A = true
  · obtain ⟨ρ, c1, f1, g1, g2⟩ := tell_M hwd hw ht 0 (by decide)
    have n1 : nI (2 ^ 0) = (1 : Int32) := rfl
    rw [n1] at c1
    have e : opS 4 w A A = (1, (true, 32767, 13835058055282163712)) := by
      unfold opS
      rw [hnn, wr]
      simp
    rw [e]
    simp only [wr, if_true, c1]
    have e1 : endsN w 1 = decide (¬ w % 2 = 1) := by
      unfold endsN
      by_cases q : w % 2 = 1
      · simp [q]
      · have : w % 2 = 0 := by omega
        simp [this]
    have w1 : w / 2 ^ 0 = w := by simp
    rw [w1] at g2
    simp only [w1]
    by_cases q : w % 2 = 1
    · rw [decide_eq_true q]
      simp only [if_true]
      obtain ⟨a1, a2, a3, a4⟩ := answer_get ρ true 32767 (-4611686018427387904)
      refine ⟨frW_trans f1 (frW_answer _ _ _ _), by rw [a3]; exact g1, (show (1 : Nat) < 64 by decide), ?_, fun _ => ⟨32767, a1, by decide, by rw [a2]; decide⟩⟩
      rw [a4, g2]
      exact e1.symm
    · rw [decide_eq_false q]
      simp only [Bool.false_eq_true, if_false]
      refine ⟨f1, g1, (show (1 : Nat) < 64 by decide), ?_, fun z => ?_⟩
      · rw [g2]
        exact e1.symm
      · have z' : endsN w 1 = false := z
        rw [e1] at z'
        simp at z'
        exact absurd z' q
  · have wr' : wrongS 4 w A A = false := by simpa using wr
    simp only [wr', Bool.false_eq_true, if_false]
    by_cases dn : isDen A.2.1 A.2.2 = true
    · have d2 : denS A A = 2 := by unfold denS; rw [dn]; rfl
      obtain ⟨ρ, c1, f1, g1, g2⟩ := tell_M hwd hw ht 1 (by decide)
      have n2 : nI (2 ^ 1) = (2 : Int32) := rfl
      rw [n2] at c1
      simp only [dn, if_true, c1]
      have e2 : endsN w 2 = decide (¬ w / 2 % 2 = 1) := by
        unfold endsN
        by_cases q : w / 2 % 2 = 1
        · simp [q]
        · have : w / 2 % 2 = 0 := by omega
          simp [this]
      by_cases q : w / 2 % 2 = 1
      · have qd : decide (w / 2 ^ 1 % 2 = 1) = true := decide_eq_true q
        rw [qd, if_pos rfl, opS_tail hnn wr' (by omega), d2]
        refine WOut_trans f1 (b69 ρ 2 ?_ (OpIs_fr hA f1) g1 (Or.inr rfl) ?_ ?_ wr')
        · rw [(f1 16 35 (by decide) (by decide)).1]
          exact hwd
        · rw [g2]
          exact decide_eq_false (fun z => z q)
        · rw [e2]
          exact decide_eq_false (fun z => z q)
      · have qd : decide (w / 2 ^ 1 % 2 = 1) = false := decide_eq_false q
        rw [qd]
        simp only [Bool.false_eq_true, if_false]
        have e : opS 4 w A A = (2, asRa A) := by
          unfold opS
          rw [hnn, wr']
          have : denS A A = 2 ∧ w / 2 % 2 = 0 := ⟨d2, by omega⟩
          simp [this]
        rw [e]
        refine ⟨f1, g1, (show (2 : Nat) < 64 by decide), ?_, fun z => ?_⟩
        · rw [g2]
          exact e2.symm
        · have z' : endsN w 2 = false := z
          rw [e2] at z'
          simp at z'
          exact absurd z' q
    · have dn' : isDen A.2.1 A.2.2 = false := by simpa using dn
      have d0 : denS A A = 0 := by unfold denS; rw [dn']; rfl
      simp only [dn', Bool.false_eq_true, if_false]
      rw [opS_tail hnn wr' (by omega), d0]
      exact b69 τ 0 hwd hA ht (Or.inl rfl) hst e0 wr'
/-! reading the operands -/
def topN (a : Re) : Nat := a.1.toNat * 32768 + a.2.1
def RegIs (τ : St) (kt kf i : Nat) (a : Re) : Prop := gI τ kt i = nI (topN a) ∧ uN (gJ τ kf i) = a.2.2 ∧ a.2.1 ≤ 32767
theorem topN_lt {a : Re} (h : a.2.1 ≤ 32767) : topN a < 65536 := by
  unfold topN
  have := Bool.toNat_le a.1
  omega
theorem top_minus {a : Re} (h : a.2.1 ≤ 32767) : (if nI (topN a) ≤ 32767 then false else true) = a.1 := by
  have hl := topN_lt h
  have c : (nI (topN a) ≤ 32767) ↔ topN a ≤ 32767 := nI_leI (b := 32767) (by omega) (by decide)
  simp only [c]
  unfold topN
  cases a.1
  · have : false.toNat * 32768 + a.2.1 ≤ 32767 := by simpa using h
    rw [if_pos this]
  · have : ¬ (true.toNat * 32768 + a.2.1 ≤ 32767) := by simp; omega
    rw [if_neg this]
theorem top_power {a : Re} (h : a.2.1 ≤ 32767) : jrem (nI (topN a)) 32768 = nI a.2.1 := by
  have hl := topN_lt h
  have e : jrem (nI (topN a)) (nI 32768) = nI (topN a % 32768) := pk_rem (by omega) (by decide) (by decide)
  have e2 : topN a % 32768 = a.2.1 := by
    unfold topN
    omega
  rw [e2] at e
  exact e
theorem take_M {τ : St} {i r : Nat} {a : Re} (hi : i < 2) (hr : r < 2) (h : RegIs τ 104 105 r a) : f_MO_take τ (nI i) (nI r) = sJ (sI (sZ τ 106 i a.1) 107 i (nI a.2.1)) 108 i (gJ τ 105 r) := by
  unfold f_MO_take
  have g : gI (sZ τ 106 i a.1) 104 r = nI (topN a) := h.1
  simp only [jat_nI (show i < 2 ^ 31 by omega), jat_nI (show r < 2 ^ 31 by omega), h.1, top_minus h.2.2, g, top_power h.2.2]
  rfl
theorem take_get {τ : St} {i r : Nat} {a : Re} (hi : i < 2) (hr : r < 2) (h : RegIs τ 104 105 r a) : OpIs (f_MO_take τ (nI i) (nI r)) i a.1 a.2.1 a.2.2 ∧ (∀ j m P F, j ≠ i → OpIs τ j m P F → OpIs (f_MO_take τ (nI i) (nI r)) j m P F) ∧ (∀ k x, k ≠ 106 → k ≠ 107 → k ≠ 108 → gI (f_MO_take τ (nI i) (nI r)) k x = gI τ k x ∧ gJ (f_MO_take τ (nI i) (nI r)) k x = gJ τ k x ∧ gZ (f_MO_take τ (nI i) (nI r)) k x = gZ τ k x) := by
  rw [take_M hi hr h]
  refine ⟨⟨?_, ?_, h.2.2, ?_⟩, fun j m P F hj hO => ⟨?_, ?_, hO.2.2.1, ?_⟩, fun k x a b c => ⟨?_, ?_, ?_⟩⟩
  · simp [gZ_sJ, gZ_sI, gZ_sZ]
  · simp [gI_sJ, gI_sI]
  · simp [gJ_sJ]
    exact h.2.1
  · simp [gZ_sJ, gZ_sI, gZ_sZ, hj]
    exact hO.1
  · simp [gI_sJ, gI_sI, gI_sZ, hj]
    exact hO.2.1
  · simp [gJ_sJ, gJ_sI, gJ_sZ, hj]
    exact hO.2.2.2
  · simp [gI_sJ, gI_sI, gI_sZ, b]
  · simp [gJ_sJ, gJ_sI, gJ_sZ, c]
  · simp [gZ_sJ, gZ_sI, gZ_sZ, a]
