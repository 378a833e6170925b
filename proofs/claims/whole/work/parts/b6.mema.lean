/-! codes with memory: numbers -/
set_option maxHeartbeats 300000 in
theorem read_J {K : K6} {a : Ab} {σ τ : St} {fm x : Nat} (ha : AOK K a) (hc : RC a σ) (hm : RM a τ) (ov : OV a τ) (ne : endsN a.w a.now = false) (hfm : fm ≤ 6) (hx : 12 ≤ x ∧ x ≤ 15) : ∃ b R, AOK K b ∧ frR x σ (f_Rd_read σ (nI fm) x) ∧ RC b (f_Rd_read σ (nI fm) x) ∧ RM b (f_M_read τ (nI fm)) ∧ OV b (f_M_read τ (nI fm)) ∧ same3 τ (f_M_read τ (nI fm)) ∧ b.e = a.e ∧ b.top = a.top ∧ (∀ k, regN b k = regN a k) ∧ (endsN b.w b.now = false → RealIs (f_Rd_read σ (nI fm) x) x (reR R).1 (reR R).2.1 (reR R).2.2 ∧ XIs (f_M_read τ (nI fm)) (reR R)) := by
  have n6 := ha.now
  obtain ⟨o1, o2, o3, o4⟩ := read_C (w := a.w) (a := x) hc.m ha.m hfm hc.now ha.now
  obtain ⟨x1, x2, x3, x4, x5⟩ := readIn_M hm.m ha.m hfm hm.w ha.w
  generalize readS fm (bN a.m 0 10) = R at *
  generalize f_Rd_read σ (nI fm) x = s at *
  generalize f_M_read τ (nI fm) = t at *
  have g8 : gI t 8 30 = nI (a.now ||| R.1) := by rw [x2, hm.now, nI_or _ _ (by omega) (by omega)]
  refine ⟨nowA a R.1, R.2, AOK_now ha o3, o1, RC_P hc (frP_R o1 hx) o2, RM_X hm x1 g8, ?_, same3_X x1, rfl, rfl, fun k => (regN_now a R.1 k).1, fun q => ?_⟩
  · unfold OV at *
    rw [x4, ov]
    show _ = endsN a.w (a.now ||| R.1)
    rw [endsN_or]
  · rw [nowA_ne ne] at q
    have ra : RaIs s x R.2 := o4 q
    obtain ⟨re, rl⟩ := RealIs_Ra ra
    obtain ⟨p, p1, p2, p3⟩ := x5 q
    exact ⟨re, top_Ra p1 p2 ra.2.2.2.1 ra.2.2.2.2, p3, rl⟩
set_option maxHeartbeats 300000 in
theorem evenMem_J {K : K6} {a : Ab} {σ τ : St} {fm r : Nat} (ha : AOK K a) (hc : RC a σ) (hm : RM a τ) (ov : OV a τ) (hfm : fm ≤ 6) (hr : r < 8) (g11 : gI τ 11 30 = nI r) : Jx K (f_PS_combine (if f_Ctl_ends (f_PS_need σ 0 12) = true then f_PS_need σ 0 12 else f_Rd_read (f_PS_need σ 0 12) (nI fm) 13) (nI r) 0 (bI (if nI r = 3 then true else false))) (if gZ (if gZ (f_M_want τ 0) 9 30 = true then f_M_want τ 0 else f_M_read (f_M_want τ 0) (nI fm)) 9 30 = true then (if gZ (f_M_want τ 0) 9 30 = true then f_M_want τ 0 else f_M_read (f_M_want τ 0) (nI fm)) else f_M_reckon (if gZ (f_M_want τ 0) 9 30 = true then f_M_want τ 0 else f_M_read (f_M_want τ 0) (nI fm)) 0) := by
  obtain ⟨b, b1, b2, b3, b4, b5, b6⟩ := one_J ha hc hm ov
  generalize f_PS_need σ 0 12 = σ1 at *
  generalize f_M_want τ 0 = τ1 at *
  have b4' : gZ τ1 9 30 = endsN b.w b.now := b4
  have stop : ∀ (s : St) (c : Ab) (x y : Int32), RC c s → AOK K c → endsN c.w c.now = true → f_PS_combine s (nI r) x y = s := fun s c x y h1 h2 h3 => by
    unfold f_PS_combine
    try dsimp only
    rw [ends_A h1 h2, h3, if_pos (rfl : true = true)]
  rw [ends_A b2 b1, b4']
  cases he : endsN b.w b.now with
  | true =>
    rw [if_pos (rfl : true = true), if_pos (rfl : true = true), b4', he, if_pos (rfl : true = true), stop _ b _ _ b2 b1 he]
    exact ⟨b, b1, b2, b3⟩
  | false =>
    rw [if_neg Bool.false_ne_true, if_neg Bool.false_ne_true]
    obtain ⟨c, R, c1, c2, c3, c4, c5, c6, c7, c8, c9, c10⟩ := read_J (x := 13) b1 b2 b3 b4 he hfm (by decide)
    have r12 := RealIs_frR b6 c2 (by decide)
    generalize f_Rd_read σ1 (nI fm) 13 = σ2 at *
    generalize f_M_read τ1 (nI fm) = τ2 at *
    have c5' : gZ τ2 9 30 = endsN c.w c.now := c5
    rw [c5']
    cases h2 : endsN c.w c.now with
    | true =>
      rw [if_pos (rfl : true = true), stop _ c _ _ c3 c1 h2]
      exact ⟨c, c1, c3, c4⟩
    | false =>
      rw [if_neg Bool.false_ne_true]
      obtain ⟨q1, q2⟩ := c10 h2
      rw [← c9 0] at r12
      have g11' : gI τ2 11 30 = nI r := (c6.2.1.trans b5.2.1).trans g11
      have eb : bI (if nI r = 3 then true else false) = nI (if r = 3 then 1 else 0) := by
        have e3 : (nI r = 3) ↔ r = 3 := nI_eq (b := 3) (by omega) (by decide)
        by_cases z : r = 3
        · rw [if_pos (e3.mpr z), if_pos z]
          rfl
        · rw [if_neg (fun q => z (e3.mp q)), if_neg z]
          rfl
      rw [eb]
      have rk := reckon_J (k := 0) (n := if r = 3 then 1 else 0) (x := 0) c1 c3 c4 (c5'.trans h2) h2 (by
        by_cases z : r = 3
        · rw [if_pos z]
          exact Or.inr (Or.inr ⟨z, Or.inl rfl, rfl⟩)
        · rw [if_neg z]
          by_cases z2 : r = 2
          · exact Or.inr (Or.inl ⟨z2, rfl, rfl⟩)
          · exact Or.inl ⟨by omega, rfl⟩) (by split <;> decide) (by decide) r12 q1 q2 g11'
      obtain ⟨d, d1, d2, d3, d4⟩ := rk
      rcases d4 with ⟨-, d5⟩ | ⟨-, d5⟩
      · exact ⟨d, d1, d5, d2⟩
      · exact ⟨d, d1, d5, d2⟩
set_option maxHeartbeats 300000 in
theorem pushRead_J {K : K6} {a : Ab} {σ τ : St} {fm : Nat} (ha : AOK K a) (hc : RC a σ) (hm : RM a τ) (ov : OV a τ) (h0 : a.now = 0) (hfm : fm ≤ 6) : Jx K (f_PS_pushRead σ (nI fm)) (f_M_push (if (f_M_isFull τ).1 = true then (f_M_isFull τ).2 else f_M_read (f_M_isFull τ).2 (nI fm)) (f_M_isFull τ).1) := by
  have ne : endsN a.w a.now = false := by rw [h0, ends0]
  have p7 : f_PS_place σ 7 = nI (plN a 7) := place_C hc ha (k := 7) (by decide)
  unfold f_PS_pushRead
  try dsimp only
  rw [isFull_M hm ha, p7, jat_pl, hc.e _ (plN_lt a 7)]
  try dsimp only
  cases he : a.e (plN a 7) with
  | true =>
    simp only [if_true, Bool.not_true, Bool.false_eq_true, if_false]
    obtain ⟨c, R, c1, c2, c3, c4, c5, c6, c7, c8, c9, c10⟩ := read_J (x := 14) ha hc hm ov ne hfm (by decide)
    have pe : c.e (plN c 7) = true := by
      unfold plN
      rw [c7, c8]
      exact he
    exact push_0 (R := reR R) c1 c3 c4 c5 (by decide) pe (fun q => (c10 q).1) (fun q => (c10 q).2)
  | false =>
    simp only [if_true, Bool.not_false, Bool.false_eq_true, if_false]
    obtain ⟨y1, y2, y3⟩ := say1_M hm ha ov
    exact push_1 ha hc y1 y2 (by decide) he
