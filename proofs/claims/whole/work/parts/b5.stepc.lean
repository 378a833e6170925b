/-! root, whole, scale -/
set_option maxHeartbeats 400000 in
theorem stepRoot_J {K : K6} {a : Ab} {σ τ : St} (ha : AOK K a) (hc : RC a σ) (hm : RM a τ) (ov : OV a τ) (g12 : gI τ 12 30 = nI 2) : Jx K (f_PS_doStep σ (nI 2)) (f_M_step τ) := by
  obtain ⟨b, b1, b2, b3, b4, b5, b6⟩ := one_J ha hc hm ov
  unfold f_PS_doStep f_M_step
  try dsimp only
  rw [g12]
  try dsimp only
  rw [if_neg (show ¬ nI 2 = 0 by decide), if_neg (show ¬ nI 2 = 5 by decide), if_neg (show ¬ nI 2 = 0 by decide), if_pos (show nI 2 = 2 by decide), if_neg (show ¬ nI 2 = 0 by decide), if_neg (show ¬ nI 2 = 0 by decide), if_neg (show ¬ nI 2 = 5 by decide), if_neg Bool.false_ne_true]
  generalize f_PS_need σ 0 12 = σ2 at *
  generalize f_M_want τ 0 = τ2 at *
  have b4' : gZ τ2 9 30 = endsN b.w b.now := b4
  have g12' : gI τ2 12 30 = nI 2 := b5.2.2.trans g12
  rw [ends_A b2 b1, b4', g12', if_pos (show nI 2 = 2 by decide)]
  cases he : endsN b.w b.now with
  | true =>
    rw [if_pos (rfl : true = true), if_pos (rfl : true = true)]
    exact ⟨b, b1, b2, b3⟩
  | false =>
    rw [if_neg Bool.false_ne_true, if_neg Bool.false_ne_true]
    exact root_J b1 b2 b3 (b4'.trans he) he b6
set_option maxHeartbeats 400000 in
theorem stepWhole_J {K : K6} {a : Ab} {σ τ : St} (ha : AOK K a) (hc : RC a σ) (hm : RM a τ) (ov : OV a τ) (g12 : gI τ 12 30 = nI 4) : Jx K (f_PS_doStep σ (nI 4)) (f_M_step τ) := by
  obtain ⟨b, b1, b2, b3, b4, b5, b6⟩ := one_J ha hc hm ov
  unfold f_PS_doStep f_M_step
  try dsimp only
  rw [g12]
  try dsimp only
  rw [if_neg (show ¬ nI 4 = 0 by decide), if_neg (show ¬ nI 4 = 5 by decide), if_neg (show ¬ nI 4 = 0 by decide), if_neg (show ¬ nI 4 = 2 by decide), if_pos (show nI 4 = 4 by decide), if_neg (show ¬ nI 4 = 0 by decide), if_neg (show ¬ nI 4 = 0 by decide), if_neg (show ¬ nI 4 = 5 by decide), if_neg Bool.false_ne_true]
  generalize f_PS_need σ 0 12 = σ2 at *
  generalize f_M_want τ 0 = τ2 at *
  have b4' : gZ τ2 9 30 = endsN b.w b.now := b4
  have g12' : gI τ2 12 30 = nI 4 := b5.2.2.trans g12
  rw [ends_A b2 b1, b4', g12', if_neg (show ¬ nI 4 = 2 by decide)]
  cases he : endsN b.w b.now with
  | true =>
    rw [if_pos (rfl : true = true), if_pos (rfl : true = true)]
    exact ⟨b, b1, b2, b3⟩
  | false =>
    rw [if_neg Bool.false_ne_true, if_neg Bool.false_ne_true]
    obtain ⟨u, u0, u1, u2, u3, u4, u5, u6⟩ := give1 b1 b3
    rw [u0, if_neg Bool.false_ne_true]
    have g12u : gI u 12 30 = nI 4 := u6.2.2.trans g12'
    rw [g12u, if_neg (show ¬ nI 4 = 0 by decide), if_pos (show nI 4 = 4 by decide)]
    have m1 := mswhole_M u3 u2 b1.w
    obtain ⟨c1, c2, c4⟩ := Outc_14 (makeWhole_C b2.w b1.w b2.now b1.now he b6 (show 12 ≠ 14 by decide))
    obtain ⟨d, d1, d2⟩ := step_fin b1 b2 u4 (by rw [u5, b4', he]) he c1 c2 c4 m1
    try dsimp only
    rcases d2 with ⟨q1, q2, q3, q4, q5⟩ | ⟨q1, q2, q3, q4, q5, q6, q7⟩
    · rw [q2, q4, if_pos (rfl : true = true), if_pos (rfl : true = true)]
      exact ⟨d, d1, q3, q5⟩
    · rw [q2, q4, if_neg Bool.false_ne_true, if_neg Bool.false_ne_true, (q7.2.2).trans g12u, if_neg (show ¬ nI 4 = 0 by decide)]
      exact ⟨d, d1, q3, q5⟩
set_option maxHeartbeats 400000 in
theorem stepScale_J {K : K6} {a : Ab} {σ τ : St} (ha : AOK K a) (hc : RC a σ) (hm : RM a τ) (ov : OV a τ) (g12 : gI τ 12 30 = nI 5) : Jx K (f_PS_doStep σ (nI 5)) (f_M_step τ) := by
  obtain ⟨b, b1, b2, b3, b4, b5, b6, b7⟩ := two_J (k := 1) ha hc hm ov (by decide)
  have e1 : f_PS_need (f_PS_need σ 0 12) 1 13 = f_PS_need (f_PS_need σ 0 12) (nI 1) 13 := rfl
  have e2 : f_M_want (f_M_want τ 0) 1 = f_M_want (f_M_want τ 0) (nI 1) := rfl
  unfold f_PS_doStep f_PS_doStep_b18 f_M_step
  try dsimp only
  rw [g12]
  try dsimp only
  rw [if_neg (show ¬ nI 5 = 0 by decide), if_pos (show nI 5 = 5 by decide), if_neg (show ¬ nI 5 = 0 by decide), if_neg (show ¬ nI 5 = 2 by decide), if_neg (show ¬ nI 5 = 4 by decide), if_neg (show ¬ nI 5 = 0 by decide), if_neg (show ¬ nI 5 = 0 by decide), if_pos (show nI 5 = 5 by decide), if_pos (rfl : true = true), e1, e2]
  generalize f_PS_need (f_PS_need σ 0 12) (nI 1) 13 = σ2 at *
  generalize f_M_want (f_M_want τ 0) (nI 1) = τ2 at *
  have b4' : gZ τ2 9 30 = endsN b.w b.now := b4
  have g12' : gI τ2 12 30 = nI 5 := b5.2.2.trans g12
  rw [ends_A b2 b1, b4', g12', if_neg (show ¬ nI 5 = 2 by decide)]
  cases he : endsN b.w b.now with
  | true =>
    rw [if_pos (rfl : true = true), if_pos (rfl : true = true)]
    exact ⟨b, b1, b2, b3⟩
  | false =>
    rw [if_neg Bool.false_ne_true, if_neg Bool.false_ne_true]
    obtain ⟨u, u0, u1, u2, u3, u4, u5, u6⟩ := give1 b1 b3
    rw [u0, if_pos (rfl : true = true)]
    obtain ⟨v, v0, v1, v2, v3, v4, v5, v6, v7⟩ := give2 b1 u4 u3
    rw [v0]
    have g12v : gI v 12 30 = nI 5 := (v7.2.2.trans u6.2.2).trans g12'
    rw [g12v, if_neg (show ¬ nI 5 = 0 by decide), if_neg (show ¬ nI 5 = 4 by decide)]
    have m1 := scale_M v3 v4 v2 b1.w
    obtain ⟨c1, c2, c4⟩ := Outc_14 (scale_C b2.w b1.w b2.now b1.now he b6 b7 (show 12 ≠ 14 by decide) (show 13 ≠ 14 by decide))
    generalize f_MS_scale v 0 1 2 = r at *
    generalize f_Steps_scale σ2 12 13 14 = sc at *
    obtain ⟨d, d1, d2⟩ := step_fin b1 b2 v5 (by rw [v6, u5, b4', he]) he c1 c2 c4 m1
    try dsimp only
    rcases d2 with ⟨q1, q2, q3, q4, q5⟩ | ⟨q1, q2, q3, q4, q5, q6, q7⟩
    · rw [q2, q4, if_pos (rfl : true = true), if_pos (rfl : true = true)]
      exact ⟨d, d1, q3, q5⟩
    · rw [q2, q4, if_neg Bool.false_ne_true, if_neg Bool.false_ne_true, (q7.2.2).trans g12v, if_neg (show ¬ nI 5 = 0 by decide)]
      exact ⟨d, d1, q3, q5⟩
theorem step_J {K : K6} {a : Ab} {σ τ : St} {i : Nat} (ha : AOK K a) (hc : RC a σ) (hm : RM a τ) (ov : OV a τ) (hi : i = 0 ∨ i = 2 ∨ i = 4 ∨ i = 5) (g12 : gI τ 12 30 = nI i) : Jx K (f_PS_doStep σ (nI i)) (f_M_step τ) := by
  rcases hi with rfl | rfl | rfl | rfl
  · exact stepRem_J ha hc hm ov g12
  · exact stepRoot_J ha hc hm ov g12
  · exact stepWhole_J ha hc hm ov g12
  · exact stepScale_J ha hc hm ov g12
