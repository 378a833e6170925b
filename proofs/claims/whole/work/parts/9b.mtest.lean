/-! comparing with nothing, and examining -/
def zeroR : Re := (false, 0, 0)
theorem setS_zero (w : Nat) (A : Re) (c : Bool) : setS w A zeroR c = setS w A A c := by
  have n0 : isNan zeroR.2.1 zeroR.2.2 = false := by decide
  have d0 : isDen zeroR.2.1 zeroR.2.2 = false := by decide
  have dn : denS A zeroR = denS A A := by
    unfold denS
    rw [d0]
    cases isDen A.2.1 A.2.2 <;> rfl
  have nn : nanS A A = A := by unfold nanS; split <;> rfl
  unfold setS
  rw [n0, dn]
  cases h : isNan A.2.1 A.2.2
  · rfl
  · have : nanS A zeroR = A := by
      unfold nanS
      rw [h, n0]
      rfl
    rw [this, nn]
    rfl
theorem ord_zero {w : Nat} {A : Re} (h : apartS w A zeroR = false) : ordS w A zeroR = sgS A := by
  have i0 : isInf zeroR.2.1 zeroR.2.2 = false := by decide
  have s0 : sgS zeroR = 0 := by decide
  have a3 := sg3 A
  unfold ordS
  rw [i0, s0]
  cases ia : isInf A.2.1 A.2.2 with
  | true =>
    have o2 : one2 w = false := by
      unfold apartS at h
      rw [ia, i0] at h
      simpa using h
    simp only [Bool.or_false, if_true, o2, Bool.false_eq_true, if_false]
    unfold cmpI
    rcases a3 with r | r | r <;> rw [r] <;> decide
  | false =>
    simp only [Bool.or_self, Bool.false_eq_true, if_false]
    by_cases q : sgS A = 0
    · rw [if_pos q, q]
      simp
    · rw [if_neg q]
      unfold cmpI
      rcases a3 with r | r | r
      · exact absurd r q
      · rw [r]
        decide
      · rw [r]
        decide
theorem test_M {τ : St} {w : Nat} {A : Re} (hA : RegIs τ 110 111 0 A) (hwd : gI τ 27 42 = nI w) (hw : w < 65536) : COut τ (f_MS_test τ 0) w (compS w A zeroR) := by
  have j0 : jat 0 = 0 := by decide
  have n0 : f_MS_none 0 = false := by decide
  obtain ⟨b1, b2, b3, b4, b5⟩ := begin_S hwd
  have hA2 := RegIs_keys hA b5
  have e0 : bI false = (0 : Int32) := rfl
  have g26 : gI (sI τ 26 42 0) 26 42 ≤ 0 := by
    rw [gI_sI, if_pos rfl, if_pos rfl]
    decide
  have i0 : isInf zeroR.2.1 zeroR.2.2 = false := by decide
  unfold f_MS_test f_MS_compared_z
  simp only [n0, Bool.false_eq_true, if_false, e0, g26, if_true]
  generalize f_MS_begin (sI τ 26 42 0) = s at *
  have t3 : (if f_MS_kind s 0 = 4 then true else false) = isInf A.2.1 A.2.2 := by
    simp only [sinf_M j0 hA2]
    cases isInf A.2.1 A.2.2 <;> rfl
  simp only [t3, one_S b2 hw]
  obtain ⟨can, hcan, hca2⟩ : ∃ can : Bool, (if (!one2 w) = true then true else if isInf A.2.1 A.2.2 = false then true else false) = can ∧ (!can) = apartS w A zeroR := by
    refine ⟨_, rfl, ?_⟩
    unfold apartS
    rw [i0]
    cases one2 w <;> cases isInf A.2.1 A.2.2 <;> rfl
  rw [hcan]
  unfold compS
  rw [setS_zero, ← hca2]
  rcases goes_n (can := can) j0 hA2 b2 hw b3 b4 with ⟨R, ρ, e1, e2, e3⟩ | ⟨ρ, e1, e2, e3, e4, e5⟩
  · rw [e1, e2]
    simp only [Bool.false_eq_true, if_false]
    obtain ⟨h1, h2, h3, h4, h5⟩ := e3
    show COut τ _ w (R.1, 2)
    refine ⟨fun q => ?_, frM_trans b1 (frM_T h1), h2, h3⟩
    have q' : endsN w R.1 = false := q
    rw [h4, q']
    rfl
  · rw [e1, e2]
    simp only [if_true]
    obtain ⟨-, hc, d2, en⟩ := setS_none e1
    have dn : denS A zeroR = denS A A := by
      have d0 : isDen zeroR.2.1 zeroR.2.2 = false := by decide
      unfold denS
      rw [d0]
      cases isDen A.2.1 A.2.2 <;> rfl
    show COut τ _ w (denS A zeroR, ordS w A zeroR)
    rw [dn, ord_zero (by rw [← hca2]; exact hc)]
    have f1 : frT ρ (sZ ρ 29 42 true) := frT_Z _ 29 42 _ (by decide)
    have f2 := frT_trans e3 f1
    have sa := ssign_M j0 (RegIs_T hA2 f2)
    have run : f_MS_order_z (sZ ρ 29 42 true) 0 = ((if (if f_MS_nothing (sZ ρ 29 42 true) 0 = true then (0 : Int32) else if f_MS_minus (sZ ρ 29 42 true) 0 = true then -1 else 1) = 0 then 0 else if 0 ≤ (if f_MS_nothing (sZ ρ 29 42 true) 0 = true then (0 : Int32) else if f_MS_minus (sZ ρ 29 42 true) 0 = true then -1 else 1) then 1 else -1), sZ ρ 29 42 true) := by
      unfold f_MS_order_z f_MS_order_z_b116
      simp only [ite_self]
      generalize (if f_MS_nothing (sZ ρ 29 42 true) 0 = true then (0 : Int32) else if f_MS_minus (sZ ρ 29 42 true) 0 = true then -1 else 1) = x
      by_cases c : x = 0
      · rw [if_pos c, if_pos c]
      · rw [if_neg c, if_neg c]
    rw [run]
    generalize (if f_MS_nothing (sZ ρ 29 42 true) 0 = true then (0 : Int32) else if f_MS_minus (sZ ρ 29 42 true) 0 = true then -1 else 1) = x at *
    refine ⟨fun _ => ?_, frM_trans b1 (frM_T f2), e4, by show denS A A < 64; omega⟩
    show (if x = 0 then (0 : Int32) else if 0 ≤ x then 1 else -1).toInt = sgS A
    have z : (x = 0) ↔ sgS A = 0 := by rw [← Int32.toInt_inj, sa]; exact Iff.rfl
    have l : (0 ≤ x) ↔ 0 ≤ sgS A := by rw [Int32.le_iff_toInt_le, sa]; exact Iff.rfl
    simp only [z, l]
    rcases sg3 A with r | r | r <;> rw [r] <;> decide
/-- what EXAMINED answers -/
def examS (A : Re) : Nat := (if kindN A.2.1 A.2.2 = 0 then 8 else if kindN A.2.1 A.2.2 = 1 then 12 else if kindN A.2.1 A.2.2 = 2 then 0 else if kindN A.2.1 A.2.2 = 3 then 4 else if kindN A.2.1 A.2.2 = 4 then 5 else 1) + (if A.1 then 2 else 0)
theorem examine_M {τ : St} {A : Re} (hA : RegIs τ 110 111 0 A) : f_MS_examine τ 0 = (nI (examS A), sI τ 26 42 0) := by
  have j0 : jat 0 = 0 := by decide
  have n0 : f_MS_none 0 = false := by decide
  have e0 : bI false = (0 : Int32) := rfl
  have g26 : gI (sI τ 26 42 0) 26 42 ≤ 0 := by
    rw [gI_sI, if_pos rfl, if_pos rfl]
    decide
  have hA2 : RegIs (sI τ 26 42 0) 110 111 0 A := ⟨by rw [gI_sI, if_neg (by decide)]; exact hA.1, hA.2.1, hA.2.2⟩
  have kk : kindN A.2.1 A.2.2 = 0 ∨ kindN A.2.1 A.2.2 = 1 ∨ kindN A.2.1 A.2.2 = 2 ∨ kindN A.2.1 A.2.2 = 3 ∨ kindN A.2.1 A.2.2 = 4 ∨ kindN A.2.1 A.2.2 = 5 := by
    unfold kindN
    (repeat' split) <;> simp
  unfold f_MS_examine examS
  simp only [n0, Bool.false_eq_true, if_false, e0, g26, if_true, skind_M j0 hA2, sminus_M j0 hA2]
  generalize kindN A.2.1 A.2.2 = k at *
  rcases kk with rfl | rfl | rfl | rfl | rfl | rfl <;> cases A.1 <;> rfl
