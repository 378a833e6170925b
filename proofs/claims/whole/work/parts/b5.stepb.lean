/-! the remainder -/
set_option maxHeartbeats 400000 in
theorem stepRem_J {K : K6} {a : Ab} {σ τ : St} (ha : AOK K a) (hc : RC a σ) (hm : RM a τ) (ov : OV a τ) (g12 : gI τ 12 30 = nI 0) : Jx K (f_PS_doStep σ (nI 0)) (f_M_step τ) := by
  obtain ⟨b, b1, b2, b3, b4, b5, b6, b7⟩ := two_J (k := 1) ha hc hm ov (by decide)
  have e1 : f_PS_need (f_PS_need σ 0 12) 1 13 = f_PS_need (f_PS_need σ 0 12) (nI 1) 13 := rfl
  have e2 : f_M_want (f_M_want τ 0) 1 = f_M_want (f_M_want τ 0) (nI 1) := rfl
  unfold f_PS_doStep f_PS_doStep_b18 f_M_step
  try dsimp only
  rw [g12]
  try dsimp only
  rw [if_pos (show nI 0 = 0 by decide), if_pos (show nI 0 = 0 by decide), if_pos (show nI 0 = 0 by decide), if_pos (show nI 0 = 0 by decide)]
  rw [if_pos (rfl : true = true), e1, e2]
  generalize f_PS_need (f_PS_need σ 0 12) (nI 1) 13 = σ2 at *
  generalize f_M_want (f_M_want τ 0) (nI 1) = τ2 at *
  have b4' : gZ τ2 9 30 = endsN b.w b.now := b4
  have g12' : gI τ2 12 30 = nI 0 := b5.2.2.trans g12
  rw [ends_A b2 b1, b4', g12', if_neg (show ¬ nI 0 = 2 by decide)]
  cases he : endsN b.w b.now with
  | true =>
    rw [if_pos (rfl : true = true), if_pos (rfl : true = true)]
    exact ⟨b, b1, b2, b3⟩
  | false =>
    rw [if_neg Bool.false_ne_true, if_neg Bool.false_ne_true]
    obtain ⟨u, u0, u1, u2, u3, u4, u5, u6⟩ := give1 b1 b3
    rw [u0, if_pos (rfl : true = true)]
    obtain ⟨v, v0, v1, v2, v3, v4, v5, v6, v7⟩ := give2 b1 u4 u3
    rw [v0]
    have g12v : gI v 12 30 = nI 0 := (v7.2.2.trans u6.2.2).trans g12'
    rw [g12v, if_pos (show nI 0 = 0 by decide)]
    obtain ⟨m1, m2⟩ := remainder_M v3 v4 v2 b1.w
    obtain ⟨c1, c2, c3, c4⟩ := remainder_C b2.w b1.w b2.now b1.now he b6 b7
    have ov2 : gZ v 9 30 = false := by rw [v6, u5, b4', he]
    have sf := step_fin b1 b2 v5 ov2 he c1 c2 (fun q => (c4 q).1) m1
    have k1 := m1.1
    obtain ⟨d, d1, d2⟩ := sf
    have k1' : (f_MS_remainder v 0 1 2).1 = nI (remS b.w (regN b 0) (regN b 1)).1 := k1
    try dsimp only
    rcases d2 with ⟨q1, q2, q3, q4, q5⟩ | ⟨q1, q2, q3, q4, q5, q6, q7⟩
    · rw [q2, q4, if_pos (rfl : true = true), if_pos (rfl : true = true)]
      exact ⟨d, d1, q3, q5⟩
    · rw [q2, q4, if_neg Bool.false_ne_true, if_neg Bool.false_ne_true]
      obtain ⟨r1, r2⟩ := remS_some q1
      obtain ⟨c5, c6, c7⟩ := c4 q1
      have kk := keep_C (RC_P b2 c1 c2) (AOK_now b1 c3) (k := 0) (x := 14) (by decide) (by decide) (RealIs_Ra c5).1
      obtain ⟨-, kk2, -, kk4⟩ := kk
      have kI : ∀ j y, ¬ (j = 16 ∧ 16 ≤ y) → gI (f_PS_keep (f_Steps_takeRemainder σ2 12 13 14) 0 14) j y = gI (f_Steps_takeRemainder σ2 12 13 14) j y := kk2
      have kZ : ∀ j y, ¬ (j = 15 ∧ 16 ≤ y) → j ≠ 101 → gZ (f_PS_keep (f_Steps_takeRemainder σ2 12 13 14) 0 14) j y = gZ (f_Steps_takeRemainder σ2 12 13 14) j y := kk4
      have z18 := (kZ 18 25 (by omega) (by decide)).trans c6
      have g12f := (q7.2.2).trans g12v
      rw [k1'] at q5 q6 q7 g12f ⊢
      rw [z18, g12f, if_pos (show nI 0 = 0 by decide)]
      have ev := even_M c3
      simp only [ev, r1]
      cases ho : (remS b.w (regN b 0) (regN b 1)).2.2 with
      | none =>
        have i0 : (none : Option (Bool × Nat)).isSome = false := rfl
        rw [i0, if_neg Bool.false_ne_true, if_neg Bool.false_ne_true]
        exact ⟨d, d1, q3, q5⟩
      | some PQ =>
        obtain ⟨P, Q⟩ := PQ
        have i1 : (some (P, Q)).isSome = true := rfl
        rw [i1, if_pos (rfl : true = true), if_pos (rfl : true = true)]
        have q8 := r2 P Q ho
        obtain ⟨cP, cQ⟩ := c7 P Q ho
        obtain ⟨mP, mQ⟩ := m2 P Q ho
        have sc := show_C q3 ((kZ 19 25 (by omega) (by decide)).trans cP) ((kI 20 25 (by omega)).trans cQ) q8
        have gQ := (q6 30 42 (by decide) (by decide)).1
        have gP := (q6 31 42 (by decide) (by decide)).2
        rw [mQ] at gQ
        rw [mP] at gP
        generalize f_M_becomeX (f_M_fromSteps (f_M_say (f_MS_remainder v 0 1 2).2 (nI (remS b.w (regN b 0) (regN b 1)).1)) 2) 0 = s7 at *
        rw [told2]
        try dsimp only
        rw [told3]
        try dsimp only
        have gP' : gZ (sI s7 26 42 0) 31 42 = P := gP
        have rm7 : RM d (sI (sI s7 26 42 0) 26 42 0) := RM_X0 q5 (frX_trans (frX_I _ 26 _ _ (by decide)) (frX_I _ 26 _ _ (by decide))) (by rw [eq_gI (by decide), eq_gI (by decide)]; exact q5.now)
        rw [gP', gQ]
        have t6 : (if (if P = true then (1 : Int32) else 0) = 1 then true else false) = P := by cases P <;> decide
        obtain ⟨y1, y2, y3⟩ := quo_m Q q8
        rw [t6, y1, y2, y3]
        exact ⟨_, by exact (AOK_mk d1.m d1.r d1.top d1.w d1.told d1.kc d1.kp d1.ko d1.lc d1.lp d1.lo d1.now d1.kk), sc, cd1 (cd3 (cd0 (cd2 rm7 _) _) _) _⟩
