/-! a register pushed -/
theorem isFull_M {K : K6} {a : Ab} {τ : St} (h : RM a τ) (ha : AOK K a) : f_M_isFull τ = (!a.e (plN a 7), if a.e (plN a 7) = true then τ else f_M_say τ 1) := by
  have e1 : f_M_st τ 7 = nI (plN a 7) := st_M h ha (k := 7) (by decide)
  unfold f_M_isFull
  try dsimp only
  rw [e1, jat_pl, h.e _ (plN_lt a 7)]
  try dsimp only
  cases a.e (plN a 7) <;> rfl
theorem say1_M {K : K6} {a : Ab} {τ : St} (h : RM a τ) (ha : AOK K a) (ov : OV a τ) : RM (nowA a 1) (f_M_say τ 1) ∧ OV (nowA a 1) (f_M_say τ 1) ∧ (∀ j x, 10 ≤ j → gI (f_M_say τ 1) j x = gI τ j x ∧ gJ (f_M_say τ 1) j x = gJ τ j x) := by
  have n6 := ha.now
  have s := say_M (T := 1) h.w ha.w (by decide)
  rw [h.now, nI_or _ _ (by omega) (by decide)] at s
  have s' : f_M_say τ 1 = sZ (sI τ 8 30 (nI (a.now ||| 1))) 9 30 (gZ τ 9 30 || endsN a.w 1) := s
  rw [s']
  refine ⟨RM_X h (frX_trans (frX_I _ 8 _ _ (by decide)) (frX_Z _ 9 _ _ (by decide))) (by rw [gI_sZ, self_gI]), ?_, fun j x hj => ⟨by rw [gI_sZ, eq_gI (by omega)], rfl⟩⟩
  unfold OV
  rw [gZ_sZ, if_pos rfl, if_pos rfl, ov]
  show _ = endsN a.w (a.now ||| 1)
  rw [endsN_or]
/-- a register is pushed -/
theorem loadST_J {K : K6} {a : Ab} {σ τ : St} {i : Nat} (ha : AOK K a) (hc : RC a σ) (hm : RM a τ) (ov : OV a τ) (h0 : a.now = 0) (hi : i < 8) : Jx K (f_PS_push (f_PS_need σ (nI i) 12) 12) (if gZ (f_M_want τ (nI i)) 9 30 = true then f_M_want τ (nI i) else f_M_push (f_M_takeX (f_M_isFull (f_M_want τ (nI i))).2 (nI i)) (f_M_isFull (f_M_want τ (nI i))).1) := by
  obtain ⟨-, -, n3⟩ := need_C hc ha (x := 12) hi (by decide)
  have r1 := need_RC hc ha (x := 12) hi (by decide)
  have w1 := (want_O hm ha hi).1
  have v1 := OV_want hm ha ov hi
  have a1 : AOK K (nowA a (lackN a i)) := AOK_now ha (lackN_lt a i)
  have rg : regN (nowA a (lackN a i)) i = regN a i := (regN_now _ _ _).1
  have lk : (nowA a (lackN a i)).now = lackN a i := by
    show a.now ||| lackN a i = _
    rw [h0, Nat.zero_or]
  generalize f_PS_need σ (nI i) 12 = σ1 at *
  generalize f_M_want τ (nI i) = τ1 at *
  generalize hb : nowA a (lackN a i) = b at *
  have l1 : b.now = 0 ∨ b.now = 1 := by
    rw [lk]
    unfold lackN
    split
    · exact Or.inr rfl
    · exact Or.inl rfl
  rw [← rg] at n3
  have v1' : gZ τ1 9 30 = endsN b.w b.now := v1
  rw [v1', isFull_M w1 a1]
  try dsimp only
  cases he : b.e (plN b 7) with
  | true =>
    rw [if_pos (rfl : true = true)]
    cases hn : endsN b.w b.now with
    | true =>
      rw [if_pos (rfl : true = true)]
      have := push_0 (x := 12) (R := indR) a1 r1 w1 v1 (by decide) he (fun q => by rw [hn] at q; cases q) (fun q => by rw [hn] at q; cases q)
      unfold f_M_push at this
      try dsimp only
      rw [v1', hn, if_pos (rfl : true = true)] at this
      exact this
    | false =>
      rw [if_neg Bool.false_ne_true]
      obtain ⟨t1, t2, t3, t4⟩ := takeX_M w1 a1 hi
      exact push_0 a1 r1 (RM_take w1 a1 hi) (by unfold OV; rw [t3]; exact v1') (by decide) he (fun _ => n3) (fun _ => t4)
  | false =>
    rw [if_neg Bool.false_ne_true]
    obtain ⟨y1, y2, y3⟩ := say1_M w1 a1 v1
    have a2 : AOK K (nowA b 1) := AOK_now a1 (by decide)
    cases hn : endsN b.w b.now with
    | true =>
      rw [if_pos (rfl : true = true)]
      have one : b.now = 1 := by
        rcases l1 with z | z
        · rw [z, ends0] at hn
          cases hn
        · exact z
      have eb : nowA b 1 = b := nowA_one one
      have w2 : RM (nowA b 1) τ1 := by rw [eb]; exact w1
      have v2 : OV (nowA b 1) τ1 := by rw [eb]; exact v1
      have := push_1 (x := 12) a1 r1 w2 v2 (by decide) he
      unfold f_M_push at this
      try dsimp only
      rw [v1', hn, if_pos (rfl : true = true)] at this
      exact this
    | false =>
      rw [if_neg Bool.false_ne_true]
      obtain ⟨t1, t2, t3, t4⟩ := takeX_M y1 a2 hi
      have y2' : gZ (f_M_say τ1 1) 9 30 = endsN (nowA b 1).w (nowA b 1).now := y2
      exact push_1 a1 r1 (RM_take y1 a2 hi) (by unfold OV; rw [t3]; exact y2') (by decide) he
