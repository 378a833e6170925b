/-! numbers taken -/
theorem takeX_M {K : K6} {a : Ab} {τ : St} (h : RM a τ) (ha : AOK K a) {k : Nat} (hk : k < 8) : frX τ (f_M_takeX τ (nI k)) ∧ gI (f_M_takeX τ (nI k)) 8 30 = gI τ 8 30 ∧ gZ (f_M_takeX τ (nI k)) 9 30 = gZ τ 9 30 ∧ XIs (f_M_takeX τ (nI k)) (regN a k) := by
  obtain ⟨t1, t2⟩ := of_M h ha hk
  have st' : f_M_st (sI τ 13 30 (f_M_topOf τ (nI k))) (nI k) = f_M_st τ (nI k) := by
    unfold f_M_st
    rw [eq_gI (by decide)]
  have t3 : f_M_fractionOf (sI τ 13 30 (f_M_topOf τ (nI k))) (nI k) = f_M_fractionOf τ (nI k) := by
    unfold f_M_fractionOf
    try dsimp only
    rw [st', gZ_sI, gJ_sI]
  unfold f_M_takeX
  try dsimp only
  rw [t3]
  refine ⟨frX_trans (frX_I _ 13 _ _ (by decide)) (frX_J _ 14 _ _ (by decide)), ?_, rfl, ?_, ?_, regN_ok ha k⟩
  · rw [gI_sJ, eq_gI (by decide)]
  · rw [gI_sJ, self_gI]
    exact t1
  · rw [gJ_sJ, if_pos rfl, if_pos rfl]
    exact t2
theorem RM_take {K : K6} {a : Ab} {τ : St} (h : RM a τ) (ha : AOK K a) {k : Nat} (hk : k < 8) : RM a (f_M_takeX τ (nI k)) := by
  obtain ⟨f1, f2, -, -⟩ := takeX_M h ha hk
  exact RM_X0 h f1 (by rw [f2]; exact h.now)
/-- codes 0, 4 and 6 with registers -/
theorem binary_J {K : K6} {a : Ab} {σ τ : St} {o r i k n x : Nat} (ha : AOK K a) (hc : RC a σ) (hm : RM a τ) (ov : OV a τ) (hi : i < 8) (hr : ((r = 0 ∨ r = 1 ∨ r = 4 ∨ r = 5 ∨ r = 6 ∨ r = 7) ∧ x = n) ∨ (r = 2 ∧ n = 0 ∧ x = 0) ∨ (r = 3 ∧ (n = 1 ∨ n = 2) ∧ x = n - 1)) (hn : n < 8) (g10 : gI τ 10 30 = nI o) (g11 : gI τ 11 30 = nI r) (g12 : gI τ 12 30 = nI i) (ho : o = 0 ∨ o = 4 ∨ o = 6) (hk : k = if o = 0 then 0 else i) (hx : x = if o = 6 then 1 else 0) : Jx K (f_PS_combine (f_PS_need (f_PS_need σ 0 12) (nI i) 13) (nI r) (nI k) (nI n)) (if gZ (f_M_want (f_M_want τ 0) (nI i)) 9 30 = true then f_M_want (f_M_want τ 0) (nI i) else if gI (f_M_reckon (f_M_takeX (f_M_want (f_M_want τ 0) (nI i)) (nI i)) (nI k)) 10 30 = 6 then (if gZ (f_M_reckon (f_M_takeX (f_M_want (f_M_want τ 0) (nI i)) (nI i)) (nI k)) 9 30 = true then f_M_reckon (f_M_takeX (f_M_want (f_M_want τ 0) (nI i)) (nI i)) (nI k) else f_M_pop (f_M_reckon (f_M_takeX (f_M_want (f_M_want τ 0) (nI i)) (nI i)) (nI k))) else f_M_reckon (f_M_takeX (f_M_want (f_M_want τ 0) (nI i)) (nI i)) (nI k)) := by
  obtain ⟨b, b1, b2, b3, b4, b5, b6, b7⟩ := two_J ha hc hm ov hi
  generalize f_PS_need (f_PS_need σ 0 12) (nI i) 13 = σ2 at *
  generalize f_M_want (f_M_want τ 0) (nI i) = τ2 at *
  have b4' : gZ τ2 9 30 = endsN b.w b.now := b4
  rw [b4']
  cases he : endsN b.w b.now with
  | true =>
    rw [if_pos (rfl : true = true)]
    have : f_PS_combine σ2 (nI r) (nI k) (nI n) = σ2 := by
      unfold f_PS_combine
      try dsimp only
      rw [ends_A b2 b1, he, if_pos (rfl : true = true)]
    rw [this]
    exact ⟨b, b1, b2, b3⟩
  | false =>
    rw [if_neg Bool.false_ne_true]
    obtain ⟨t1, t2, t3, t4⟩ := takeX_M b3 b1 hi
    have t5 := RM_take b3 b1 hi
    have t6 := same3_X t1
    generalize f_M_takeX τ2 (nI i) = τ3 at *
    have g11' : gI τ3 11 30 = nI r := (t6.2.1.trans b5.2.1).trans g11
    have kl : k < 8 := by rw [hk]; split <;> omega
    have rk := reckon_J b1 b2 t5 (by rw [t3, b4', he]) he hr hn kl b6 b7 t4 g11'
    obtain ⟨c, c1, c2, c3, c4⟩ := rk
    generalize f_PS_combine σ2 (nI r) (nI k) (nI n) = σ3 at *
    generalize f_M_reckon τ3 (nI k) = τ4 at *
    have g10' : gI τ4 10 30 = nI o := ((c3.1.trans t6.1).trans b5.1).trans g10
    rw [g10']
    rcases ho with rfl | rfl | rfl
    · rw [if_neg (show ¬ nI 0 = 6 by decide)]
      rw [if_neg (by decide)] at hx
      subst hx
      rcases c4 with ⟨-, d⟩ | ⟨-, d⟩
      · exact ⟨c, c1, d, c2⟩
      · exact ⟨c, c1, d, c2⟩
    · rw [if_neg (show ¬ nI 4 = 6 by decide)]
      rw [if_neg (by decide)] at hx
      subst hx
      rcases c4 with ⟨-, d⟩ | ⟨-, d⟩
      · exact ⟨c, c1, d, c2⟩
      · exact ⟨c, c1, d, c2⟩
    · rw [if_pos (show nI 6 = 6 by decide)]
      rw [if_pos rfl] at hx
      subst hx
      rcases c4 with ⟨q, d⟩ | ⟨q, d⟩
      · rw [q, if_pos (rfl : true = true)]
        exact ⟨c, c1, d, c2⟩
      · rw [q, if_neg Bool.false_ne_true]
        exact ⟨popA c, AOK_pop c1, d, (pop_M c2 c1).1⟩
