/-! the reference's comparing -/
theorem ssign_M {τ : St} {a : Int32} {i : Nat} {A : Re} (ja : jat a = i) (h : RegIs τ 110 111 i A) : (if f_MS_nothing τ a = true then (0 : Int32) else if f_MS_minus τ a = true then -1 else 1).toInt = sgS A := by
  rw [snothing_M ja h, sminus_M ja h]
  unfold sgS
  cases isNil A.2.1 A.2.2 <;> cases A.1 <;> rfl
theorem one_S {τ : St} {w : Nat} (hwd : gI τ 27 42 = nI w) (hw : w < 65536) : f_MS_masked τ 4096 = !one2 w := by
  have := masked_S hwd hw 12 (by decide)
  have n : nI (2 ^ 12) = (4096 : Int32) := rfl
  rw [n] at this
  rw [this]
  unfold one2
  by_cases q : w / 4096 % 2 = 1
  · have e : w / 2 ^ 12 % 2 = 1 := q
    rw [decide_eq_true e]
    simp [q]
  · have e : ¬ w / 2 ^ 12 % 2 = 1 := q
    have q0 : w / 4096 % 2 = 0 := by omega
    rw [decide_eq_false e]
    simp [q0]
theorem neg_sg {x : Int32} {a : Int} (hx : x.toInt = a) (ha : a = 0 ∨ a = -1 ∨ a = 1) : (-x).toInt = -a := by
  rw [Int32.toInt_neg, hx]
  rcases ha with rfl | rfl | rfl <;> decide
theorem inf_sg {A : Re} (h : isInf A.2.1 A.2.2 = true) : sgS A = if A.1 then -1 else 1 := by
  unfold sgS
  have : isNil A.2.1 A.2.2 = false := by
    unfold isInf at h
    unfold isNil
    simp at h
    simp [h.1]
  rw [this]
  rfl
theorem order_M {s : St} {w : Nat} {A B : Re} (hA : RegIs s 110 111 0 A) (hB : RegIs s 110 111 1 B) (hwd : gI s 27 42 = nI w) (hw : w < 65536) (hap : apartS w A B = false) : (f_MS_order_f s 0 1).1.toInt = ordS w A B ∧ frT s (f_MS_order_f s 0 1).2 ∧ gI (f_MS_order_f s 0 1).2 28 42 = gI s 28 42 := by
  have j0 : jat 0 = 0 := by decide
  have j1 : jat 1 = 1 := by decide
  have sa := ssign_M j0 hA
  have sb := ssign_M j1 hB
  have a3 := sg3 A
  have b3 := sg3 B
  have t3 : (if f_MS_kind s 0 = 4 then true else false) = isInf A.2.1 A.2.2 := by
    simp only [sinf_M j0 hA]
    cases isInf A.2.1 A.2.2 <;> rfl
  have t4 : (if f_MS_kind s 1 = 4 then true else false) = isInf B.2.1 B.2.2 := by
    simp only [sinf_M j1 hB]
    cases isInf B.2.1 B.2.2 <;> rfl
  unfold f_MS_order_f
  simp only [t3, t4, one_S hwd hw]
  generalize hx : (if f_MS_nothing s 0 = true then (0 : Int32) else if f_MS_minus s 0 = true then -1 else 1) = x at *
  generalize hy : (if f_MS_nothing s 1 = true then (0 : Int32) else if f_MS_minus s 1 = true then -1 else 1) = y at *
  have eq : (x = y) ↔ sgS A = sgS B := by rw [← Int32.toInt_inj, sa, sb]
  have le : (y ≤ x) ↔ sgS B ≤ sgS A := by rw [Int32.le_iff_toInt_le, sa, sb]
  have z : (x = 0) ↔ sgS A = 0 := by rw [← Int32.toInt_inj, sa]; exact Iff.rfl
  have cmp := cmp3 sa sb
  unfold ordS
  cases ia : isInf A.2.1 A.2.2 with
  | true =>
    have iA := inf_sg ia
    cases ib : isInf B.2.1 B.2.2 with
    | true =>
      simp only [Bool.or_self, if_true]
      cases o2 : one2 w with
      | true => exact ⟨rfl, frT_refl _, rfl⟩
      | false =>
        unfold f_MS_order_f_b116
        simp only [Bool.not_false, if_true, Bool.false_eq_true, if_false]
        by_cases q : x = y
        · have q' := eq.mp q
          rw [if_pos q]
          have e : cmpI (sgS A) (sgS B) = 0 := by unfold cmpI; rw [if_pos q']
          rw [e]
          split <;> exact ⟨rfl, frT_refl _, rfl⟩
        · rw [if_neg q]
          rw [if_neg q] at cmp
          exact ⟨cmp, frT_refl _, rfl⟩
    | false =>
      have o2 : one2 w = false := by
        unfold apartS at hap
        rw [ia, ib] at hap
        simpa using hap
      unfold f_MS_order_f_b116 f_MS_order_f_b153 f_MS_order_f_b163
      simp only [Bool.or_false, if_true, Bool.false_eq_true, if_false, o2]
      have nz : ¬ x = 0 := fun q => by
        have := z.mp q
        rw [iA] at this
        split at this <;> omega
      have target : cmpI (sgS A) 0 = sgS A := by
        rw [iA]
        cases A.1 <;> rfl
      rw [target]
      by_cases q : x = y
      · rw [if_pos q, if_neg nz]
        exact ⟨sa, frT_refl _, rfl⟩
      · rw [if_neg q]
        refine ⟨?_, frT_refl _, rfl⟩
        rw [if_neg q] at cmp
        rw [cmp]
        have ne : ¬ sgS A = sgS B := fun r => q (eq.mpr r)
        have vA : sgS A = -1 ∨ sgS A = 1 := by
          rw [iA]
          cases A.1 <;> simp
        unfold cmpI
        rcases vA with r | r <;> rcases b3 with p | p | p <;> rw [r, p] at ne ⊢ <;> first | decide | exact absurd rfl ne
  | false =>
    cases ib : isInf B.2.1 B.2.2 with
    | true =>
      have iB := inf_sg ib
      have o2 : one2 w = false := by
        unfold apartS at hap
        rw [ia, ib] at hap
        simpa using hap
      unfold f_MS_order_f_b116 f_MS_order_f_b153 f_MS_order_f_b163
      simp only [Bool.false_or, if_true, Bool.false_eq_true, if_false, o2]
      have target : cmpI 0 (sgS B) = -(sgS B) := by
        rw [iB]
        cases B.1 <;> rfl
      rw [target]
      by_cases q : x = y
      · have q' := eq.mp q
        have nz : ¬ x = 0 := fun r => by
          have := z.mp r
          rw [q', iB] at this
          split at this <;> omega
        rw [if_pos q, if_neg nz]
        refine ⟨?_, frT_refl _, rfl⟩
        rw [← q']
        exact neg_sg sa a3
      · rw [if_neg q]
        refine ⟨?_, frT_refl _, rfl⟩
        rw [if_neg q] at cmp
        rw [cmp]
        have ne : ¬ sgS A = sgS B := fun r => q (eq.mpr r)
        have vB : sgS B = -1 ∨ sgS B = 1 := by
          rw [iB]
          cases B.1 <;> simp
        unfold cmpI
        rcases vB with r | r <;> rcases a3 with p | p | p <;> rw [r, p] at ne ⊢ <;> first | decide | exact absurd rfl ne
    | false =>
      unfold f_MS_order_f_b116 f_MS_order_f_b153
      simp only [Bool.or_self, Bool.false_eq_true, if_false]
      by_cases q : x = y
      · have q' := eq.mp q
        rw [if_pos q, if_pos q']
        by_cases nz : x = 0
        · rw [if_pos nz, z.mp nz]
          exact ⟨by simp, frT_refl _, rfl⟩
        · rw [if_neg nz]
          have sA : sgS A ≠ 0 := fun r => nz (z.mpr r)
          have hFA : A.2.2 ≠ 0 := fun r => sA (by
            unfold sgS
            have : isNil A.2.1 A.2.2 = true := by
              unfold isNil
              unfold isInf at ia
              by_cases p : A.2.1 = 32767
              · rw [p, r] at ia
                simp at ia
              · simp [p, r]
            rw [this]
            rfl)
          have hFB : B.2.2 ≠ 0 := fun r => sA (by
            rw [q']
            unfold sgS
            have : isNil B.2.1 B.2.2 = true := by
              unfold isNil
              unfold isInf at ib
              by_cases p : B.2.1 = 32767
              · rw [p, r] at ib
                simp at ib
              · simp [p, r]
            rw [this]
            rfl)
          obtain ⟨vA, fA, ja, p1, p2, p3, p4, p5⟩ := apart_M j0 hA hFA
          have f1 : frT s (sI (sJ s 34 42 vA) 35 42 fA) := frT_trans (frT_J _ 34 42 _ (by decide)) (frT_I _ 35 42 _ (by decide))
          have hB1 := RegIs_T hB f1
          obtain ⟨vB, fB, jb, r1, r2, r3, r4, r5⟩ := apart_M j1 hB1 hFB
          have cn := cmp_num hA.2.2 hB.2.2 p2 r2 p3 p4 r3 r4
          rw [p1, r1]
          have g34 : gJ (sI (sJ s 34 42 vA) 35 42 fA) 34 42 = vA := by simp [gJ_sI, gJ_sJ]
          have g35 : gI (sI (sJ s 34 42 vA) 35 42 fA) 35 42 = fA := by simp [gI_sI]
          rw [g34, g35]
          generalize hS : sI (sJ s 34 42 vA) 35 42 fA = S at *
          have h34 : gJ (sI (sJ S 34 42 vB) 35 42 fB) 34 42 = vB := by simp [gJ_sI, gJ_sJ]
          have h35 : gI (sI (sJ S 34 42 vB) 35 42 fB) 35 42 = fB := by simp [gI_sI]
          rw [h34, h35]
          have f2 : frT s (sI (sJ S 34 42 vB) 35 42 fB) := frT_trans f1 (frT_trans (frT_J _ 34 42 _ (by decide)) (frT_I _ 35 42 _ (by decide)))
          have t2 : gI (sI (sJ S 34 42 vB) 35 42 fB) 28 42 = gI s 28 42 := by
            rw [← hS]
            rfl
          have nx := neg_sg sa a3
          rw [cn]
          have ef : (fA = fB) ↔ unitN A.2.1 - ja = unitN B.2.1 - jb := by
            rw [← Int32.toInt_inj, p5, r5]
            omega
          have lf : (fB ≤ fA) ↔ ¬ unitN A.2.1 - ja < unitN B.2.1 - jb := by
            rw [Int32.le_iff_toInt_le, p5, r5]
            omega
          by_cases c1 : fA = fB
          · rw [if_pos c1, if_pos (ef.mp c1)]
            refine ⟨?_, f2, t2⟩
            have ev : (vA = vB) ↔ uN vA = uN vB := uN_eq
            show (if vA = vB then (0 : Int32) else if f_MS_lessSize vA vB = true then -x else x).toInt = _
            rw [lessSize_eq]
            unfold cmpN
            by_cases c2 : uN vA = uN vB
            · rw [if_pos (ev.mpr c2), if_neg (by omega), if_pos c2]
              simp
            · rw [if_neg (fun r => c2 (ev.mp r))]
              by_cases c3 : uN vA < uN vB
              · rw [decide_eq_true c3, if_pos rfl, if_pos c3, nx]
                omega
              · rw [decide_eq_false c3, if_neg c3, if_neg c2]
                simp
                exact sa
          · rw [if_neg c1, if_neg (fun r => c1 (ef.mpr r))]
            refine ⟨?_, f2, t2⟩
            show (if fB ≤ fA then x else -x).toInt = _
            by_cases c2 : fB ≤ fA
            · rw [if_pos c2, if_neg (lf.mp c2), sa]
              simp
            · have : unitN A.2.1 - ja < unitN B.2.1 - jb := Classical.byContradiction (fun r => c2 (lf.mpr r))
              rw [if_neg c2, if_pos this, nx]
              omega
      · have ne : ¬ sgS A = sgS B := fun r => q (eq.mpr r)
        rw [if_neg q, if_neg ne]
        rw [if_neg q] at cmp
        exact ⟨cmp, frT_refl _, rfl⟩
/-- behind a comparing that is called from outside -/
def COut (τ : St) (r : Int32 × St) (w : Nat) (R : Nat × Int) : Prop := (endsN w R.1 = false → r.1.toInt = R.2) ∧ frM τ r.2 ∧ gI r.2 28 42 = nI R.1 ∧ R.1 < 64
theorem compare_M {τ : St} {w : Nat} {A B : Re} (hA : RegIs τ 110 111 0 A) (hB : RegIs τ 110 111 1 B) (hwd : gI τ 27 42 = nI w) (hw : w < 65536) : COut τ (f_MS_compare τ 0 1) w (compS w A B) := by
  have j0 : jat 0 = 0 := by decide
  have j1 : jat 1 = 1 := by decide
  have n0 : f_MS_none 0 = false := by decide
  have n1 : f_MS_none 1 = false := by decide
  obtain ⟨b1, b2, b3, b4, b5⟩ := begin_S hwd
  have hA2 := RegIs_keys hA b5
  have hB2 := RegIs_keys hB b5
  have e0 : bI false = (0 : Int32) := rfl
  have g26 : gI (sI τ 26 42 0) 26 42 ≤ 0 := by
    rw [gI_sI, if_pos rfl, if_pos rfl]
    decide
  unfold f_MS_compare f_MS_compared_f
  simp only [n0, n1, Bool.false_eq_true, if_false, e0, g26, if_true]
  generalize f_MS_begin (sI τ 26 42 0) = s at *
  have t3 : (if f_MS_kind s 0 = 4 then true else false) = isInf A.2.1 A.2.2 := by
    simp only [sinf_M j0 hA2]
    cases isInf A.2.1 A.2.2 <;> rfl
  have t4 : (if f_MS_kind s 1 = 4 then true else false) = isInf B.2.1 B.2.2 := by
    simp only [sinf_M j1 hB2]
    cases isInf B.2.1 B.2.2 <;> rfl
  simp only [t3, t4, one_S b2 hw]
  obtain ⟨can, hcan, hca2⟩ : ∃ can : Bool, (if (!one2 w) = true then true else if isInf A.2.1 A.2.2 = isInf B.2.1 B.2.2 then true else false) = can ∧ (!can) = apartS w A B := by
    refine ⟨_, rfl, ?_⟩
    unfold apartS
    cases one2 w <;> cases isInf A.2.1 A.2.2 <;> cases isInf B.2.1 B.2.2 <;> rfl
  rw [hcan]
  unfold compS
  rw [← hca2]
  rcases goes_2 (can := can) j0 j1 (by decide) hA2 hB2 b2 hw b3 b4 with ⟨R, ρ, e1, e2, e3⟩ | ⟨ρ, e1, e2, e3, e4, e5⟩
  · rw [e1, e2]
    simp only [Bool.false_eq_true, if_false]
    obtain ⟨h1, h2, h3, h4, h5⟩ := e3
    show COut τ _ w (R.1, 2)
    refine ⟨fun q => ?_, frM_trans b1 (frM_T h1), h2, h3⟩
    have q' : endsN w R.1 = false := q
    rw [h4, q']
    rfl
  · rw [e1, e2]
    simp only [if_true]
    show COut τ _ w (denS A B, ordS w A B)
    obtain ⟨-, hc, d2, en⟩ := setS_none e1
    have f1 : frT ρ (sZ ρ 29 42 true) := frT_Z _ 29 42 _ (by decide)
    have f2 := frT_trans e3 f1
    have wd : gI (sZ ρ 29 42 true) 27 42 = nI w := by rw [(f2 27 42 (by decide)).1]; exact b2
    obtain ⟨o1, o2, o3⟩ := order_M (RegIs_T hA2 f2) (RegIs_T hB2 f2) wd hw (by rw [← hca2]; exact hc)
    refine ⟨fun _ => o1, frM_trans b1 (frM_trans (frM_T f2) (frM_T o2)), ?_, by show denS A B < 64; omega⟩
    show gI (f_MS_order_f (sZ ρ 29 42 true) 0 1).2 28 42 = nI (denS A B)
    rw [o3]
    exact e4
