/-! taking apart -/
def goC (full : Bool) (t2 : St) : St :=
  let s3 : St := f_Steps_extract t2 12 14 15
  if f_Ctl_ends s3 = true then
    s3
  else
    let t3 : St :=
        if full = true then
          f_Real_setIndefinite s3 15
        else
          s3
    let s5 : St := f_PS_keep t3 0 14
    let s6 : St := sI s5 0 0 (f_PS_place s5 7)
    f_PS_keep s6 0 15
def goM (r1 : Bool × St) : St :=
  let s2 : St := f_M_giveSteps r1.2 0 (f_M_topOf r1.2 0) (f_M_fractionOf r1.2 0)
  let r2 : Int32 × St := f_MS_extract s2 0 1 2
  let s3 : St := f_M_say r2.2 r2.1
  if gZ s3 9 30 = true then
    s3
  else
    f_M_push (f_M_fromSteps (f_M_becomeX (f_M_fromSteps s3 1) 0) 2) r1.1
theorem go_J {K : K6} {a : Ab} {σ τ : St} {full : Bool} (ha : AOK K a) (hc : RC a σ) (hm : RM a τ) (ov : gZ τ 9 30 = false) (ne : endsN a.w a.now = false) (hA : RealIs σ 12 (regN a 0).1 (regN a 0).2.1 (regN a 0).2.2) : Jx K (goC full σ) (goM (full, τ)) := split_go (full := full) ha hc hm ov ne hA
theorem extract_eq (σ : St) : f_PS_extract σ = (if f_Ctl_ends (if (if gZ (f_PS_need σ 0 12) 101 (jat (f_PS_place (f_PS_need σ 0 12) 7)) = true then false else true) = true then f_Ctl_tell (f_PS_need σ 0 12) 1 else f_PS_need σ 0 12) = true then (if (if gZ (f_PS_need σ 0 12) 101 (jat (f_PS_place (f_PS_need σ 0 12) 7)) = true then false else true) = true then f_Ctl_tell (f_PS_need σ 0 12) 1 else f_PS_need σ 0 12) else goC (if gZ (f_PS_need σ 0 12) 101 (jat (f_PS_place (f_PS_need σ 0 12) 7)) = true then false else true) (if (if gZ (f_PS_need σ 0 12) 101 (jat (f_PS_place (f_PS_need σ 0 12) 7)) = true then false else true) = true then f_Ctl_tell (f_PS_need σ 0 12) 1 else f_PS_need σ 0 12)) := rfl
theorem split_eq (τ : St) : f_M_split τ = (if gZ (f_M_want τ 0) 9 30 = true then f_M_want τ 0 else if gZ (f_M_isFull (f_M_want τ 0)).2 9 30 = true then (f_M_isFull (f_M_want τ 0)).2 else goM (f_M_isFull (f_M_want τ 0))) := rfl
set_option maxHeartbeats 400000 in
theorem split_J {K : K6} {a : Ab} {σ τ : St} (ha : AOK K a) (hc : RC a σ) (hm : RM a τ) (ov : OV a τ) (h0 : a.now = 0) : Jx K (f_PS_extract σ) (f_M_split τ) := by
  have e1 : f_PS_need σ 0 12 = f_PS_need σ (nI 0) 12 := rfl
  have e2 : f_M_want τ 0 = f_M_want τ (nI 0) := rfl
  rw [extract_eq, split_eq, e1, e2]
  obtain ⟨-, -, n3⟩ := need_C hc ha (k := 0) (x := 12) (by decide) (by decide)
  have r1 := need_RC hc ha (k := 0) (x := 12) (by decide) (by decide)
  have w1 := (want_O hm ha (k := 0) (by decide)).1
  have v1 := OV_want hm ha ov (k := 0) (by decide)
  have a1 : AOK K (nowA a (lackN a 0)) := AOK_now ha (lackN_lt a 0)
  have rg : regN (nowA a (lackN a 0)) 0 = regN a 0 := (regN_now _ _ _).1
  have lk : (nowA a (lackN a 0)).now = lackN a 0 := by
    show a.now ||| lackN a 0 = _
    rw [h0, Nat.zero_or]
  have l1 : lackN a 0 = 0 ∨ lackN a 0 = 1 := by
    unfold lackN
    split
    · exact Or.inr rfl
    · exact Or.inl rfl
  rw [← rg] at n3
  rw [← lk] at l1
  generalize f_PS_need σ (nI 0) 12 = σ1 at *
  generalize f_M_want τ (nI 0) = τ1 at *
  generalize nowA a (lackN a 0) = b at *
  have v1' : gZ τ1 9 30 = endsN b.w b.now := v1
  have n6 := a1.now
  have p7 : f_PS_place σ1 7 = nI (plN b 7) := place_C r1 a1 (k := 7) (by decide)
  rw [v1', isFull_M w1 a1, p7, jat_pl, r1.e _ (plN_lt b 7)]
  try dsimp only
  have t7 : gI (f_Ctl_tell σ1 1) 7 3 = nI (b.now ||| 1) := by rw [tell_7, r1.now, show (1 : Int32) = nI 1 from rfl, nI_or _ _ (by omega) (by decide)]
  have rc1 : RC (nowA b 1) (f_Ctl_tell σ1 1) := RC_P r1 (frP_R (frR_tell 14 σ1 1) (by decide)) t7
  have a2 : AOK K (nowA b 1) := AOK_now a1 (by decide)
  cases he : endsN b.w b.now with
  | true =>
    rw [if_pos (rfl : true = true)]
    have one : b.now = 1 := by
      rcases l1 with z | z
      · rw [z, ends0] at he
        cases he
      · exact z
    have eb : nowA b 1 = b := nowA_one one
    rw [eb] at rc1
    cases b.e (plN b 7) with
    | true =>
      simp only [if_true, Bool.false_eq_true, if_false]
      rw [ends_A r1 a1, he, if_pos (rfl : true = true)]
      exact ⟨b, a1, r1, w1⟩
    | false =>
      simp only [if_true, Bool.false_eq_true, if_false]
      rw [ends_A rc1 a1, he, if_pos (rfl : true = true)]
      exact ⟨b, a1, rc1, w1⟩
  | false =>
    rw [if_neg Bool.false_ne_true]
    cases b.e (plN b 7) with
    | true =>
      simp only [if_true, Bool.false_eq_true, if_false, Bool.not_true]
      rw [ends_A r1 a1, he, if_neg Bool.false_ne_true, v1', he, if_neg Bool.false_ne_true]
      exact go_J a1 r1 w1 (v1'.trans he) he n3
    | false =>
      simp only [if_true, Bool.false_eq_true, if_false, Bool.not_false]
      obtain ⟨y1, y2, y3⟩ := say1_M w1 a1 v1
      have y2' : gZ (f_M_say τ1 1) 9 30 = endsN (nowA b 1).w (nowA b 1).now := y2
      rw [ends_A rc1 a2, y2']
      cases h2 : endsN (nowA b 1).w (nowA b 1).now with
      | true =>
        rw [if_pos (rfl : true = true), if_pos (rfl : true = true)]
        exact ⟨_, a2, rc1, y1⟩
      | false =>
        rw [if_neg Bool.false_ne_true, if_neg Bool.false_ne_true]
        have n5 := RealIs_frR n3 (frR_tell 14 σ1 1) (show 12 ≠ 14 by decide)
        rw [← (regN_now b 1 0).1] at n5
        exact go_J a2 rc1 y1 (y2'.trans h2) h2 n5
