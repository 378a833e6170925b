/-! looking, steps, taking apart -/
def exB (a : Ab) (n : Nat) : Ab := (Ab.mk17 a.m a.r a.e a.top a.w a.told (n.testBit 0) (n.testBit 1) (n.testBit 2) (n.testBit 3) a.kc a.kp a.ko a.lc a.lp a.lo a.now)
theorem ex_c : ∀ n, n < 16 → (jshl (nI n &&& 7) 8 ||| jshl (nI n &&& 8) 11) = nI (cndN (n.testBit 0) (n.testBit 1) (n.testBit 2) (n.testBit 3)) := by decide
theorem ex_m : ∀ n, n < 16 → (if jrem (nI n) 2 = 1 then true else false) = n.testBit 0 ∧ (if jrem (nI n / 2) 2 = 1 then true else false) = n.testBit 1 ∧ (if jrem (nI n / 4) 2 = 1 then true else false) = n.testBit 2 ∧ (if nI n / 8 = 1 then true else false) = n.testBit 3 := by decide
theorem kindN_lt (P F : Nat) : kindN P F < 6 := by
  unfold kindN
  (repeat' split) <;> decide
theorem exam_C {A : Re} : (tb5.getD (jat (nI (kindN A.2.1 A.2.2))) 0) + (if A.1 = true then 2 else 0) = nI (examS A) ∧ examS A < 16 := by
  have l := kindN_lt A.2.1 A.2.2
  unfold examS
  generalize kindN A.2.1 A.2.2 = k at *
  cases A.1 <;> rcases (show k = 0 ∨ k = 1 ∨ k = 2 ∨ k = 3 ∨ k = 4 ∨ k = 5 by omega) with rfl | rfl | rfl | rfl | rfl | rfl <;> decide
theorem examine_J {K : K6} {a : Ab} {σ τ : St} (ha : AOK K a) (hc : RC a σ) (hm : RM a τ) (g12 : gI τ 12 30 = 5) : Jx K (f_PS_examine σ) (f_M_look τ) := by
  have t := ha.top
  have j : jat (nI a.top) = a.top := nI_clamp (by omega)
  obtain ⟨n, hn, cn, mn⟩ : ∃ n, n < 16 ∧ f_PS_examine σ = sI σ 2 0 (jshl (nI n &&& 7) 8 ||| jshl (nI n &&& 8) 11) ∧ n = (if a.e a.top = true then 9 else examS (a.r a.top)) := by
    unfold f_PS_examine
    try dsimp only
    rw [hc.top, j, hc.e _ t, (hc.r _ t).1, kind_N (hc.r _ t)]
    try dsimp only
    rw [(exam_C (A := a.r a.top)).1]
    cases a.e a.top with
    | true =>
      rw [if_pos (rfl : true = true)]
      exact ⟨9, by decide, rfl, by rw [if_pos (rfl : true = true)]⟩
    | false =>
      rw [if_neg Bool.false_ne_true]
      exact ⟨_, (exam_C (A := a.r a.top)).2, rfl, by rw [if_neg Bool.false_ne_true]⟩
  rw [cn]
  have rc := cond_RC hc _ _ _ _ (ex_c n hn)
  obtain ⟨h1, h2, h3⟩ := hm.r _ t
  obtain ⟨g1, g2, g3, -⟩ := give_M (r := 0) (by decide) hm.w ha.w h2 h3
  unfold f_M_look
  try dsimp only
  rw [if_pos g12, hm.top, j, h1]
  try dsimp only
  have e0 : f_M_giveSteps τ 0 (nI (topN (a.r a.top))) (gJ τ 102 a.top) = f_M_giveSteps τ (nI 0) (nI (topN (a.r a.top))) (gJ τ 102 a.top) := rfl
  rw [e0]
  generalize f_M_giveSteps τ (nI 0) (nI (topN (a.r a.top))) (gJ τ 102 a.top) = s6 at *
  have rm6 : RM a s6 := RM_X0 hm (frX_M g1) (by rw [(g1 8 30 (by decide) (by decide) (by decide)).1]; exact hm.now)
  rw [rm6.top, j, rm6.e _ t, examine_M g3]
  try dsimp only
  obtain ⟨q, q1, q2⟩ : ∃ q : Int32 × St, (if a.e a.top = true then ((9 : Int32), s6) else (nI (examS (a.r a.top)), sI s6 26 42 0)) = q ∧ q.1 = nI n ∧ RM a q.2 := by
    refine ⟨_, rfl, ?_⟩
    cases he : a.e a.top with
    | true =>
      rw [he, if_pos (rfl : true = true)] at mn
      rw [if_pos (rfl : true = true), mn]
      exact ⟨rfl, rm6⟩
    | false =>
      rw [he, if_neg Bool.false_ne_true] at mn
      rw [if_neg Bool.false_ne_true, mn]
      exact ⟨rfl, RM_X0 rm6 (frX_I _ 26 _ _ (by decide)) (by rw [eq_gI (by decide)]; exact rm6.now)⟩
  rw [q1, q2.1, (ex_m n hn).1, (ex_m n hn).2.1, (ex_m n hn).2.2.1, (ex_m n hn).2.2.2]
  exact ⟨_, by exact (AOK_mk ha.m ha.r ha.top ha.w ha.told ha.kc ha.kp ha.ko ha.lc ha.lp ha.lo ha.now ha.kk), rc, cd3 (cd2 (cd1 (cd0 q2.2 _) _) _) _⟩
/-- a need and a want of the first register -/
theorem one_J {K : K6} {a : Ab} {σ τ : St} (ha : AOK K a) (hc : RC a σ) (hm : RM a τ) (ov : OV a τ) : ∃ b, AOK K b ∧ RC b (f_PS_need σ 0 12) ∧ RM b (f_M_want τ 0) ∧ OV b (f_M_want τ 0) ∧ same3 τ (f_M_want τ 0) ∧ RealIs (f_PS_need σ 0 12) 12 (regN b 0).1 (regN b 0).2.1 (regN b 0).2.2 := by
  have e1 : f_PS_need σ 0 12 = f_PS_need σ (nI 0) 12 := rfl
  have e2 : f_M_want τ 0 = f_M_want τ (nI 0) := rfl
  rw [e1, e2]
  have n3 := (need_C hc ha (k := 0) (x := 12) (by decide) (by decide)).2.2
  rw [← (regN_now a (lackN a 0) 0).1] at n3
  exact ⟨_, AOK_now ha (lackN_lt a 0), need_RC hc ha (by decide) (by decide), (want_O hm ha (by decide)).1, OV_want hm ha ov (by decide), same3_want hm ha (by decide), n3⟩
theorem first_J {K : K6} {a : Ab} {σ τ : St} {i : Nat} (ha : AOK K a) (hc : RC a σ) (hm : RM a τ) (ov : OV a τ) (hi : i = 0 ∨ i = 1 ∨ i = 4 ∨ i = 5) (g12 : gI τ 12 30 = nI i) : Jx K (f_PS_doWithFirst σ (nI i)) (f_M_look τ) := by
  by_cases i5 : i = 5
  · subst i5
    unfold f_PS_doWithFirst
    try dsimp only
    rw [if_pos (show nI 5 = 5 by decide)]
    exact examine_J ha hc hm g12
  · have n5 : ¬ nI i = 5 := by rcases hi with rfl | rfl | rfl | rfl <;> first | decide | exact absurd rfl i5
    obtain ⟨b, b1, b2, b3, b4, b5, b6⟩ := one_J ha hc hm ov
    unfold f_PS_doWithFirst f_M_look
    try dsimp only
    rw [if_neg n5, g12, if_neg n5]
    try dsimp only
    generalize f_PS_need σ 0 12 = σ1 at *
    generalize f_M_want τ 0 = τ1 at *
    have b4' : gZ τ1 9 30 = endsN b.w b.now := b4
    rw [b4']
    have e3 : f_M_takeX τ1 0 = f_M_takeX τ1 (nI 0) := rfl
    rw [e3]
    obtain ⟨x1, x2, x3, x4⟩ := takeX_M b3 b1 (k := 0) (by decide)
    have x5 := RM_take b3 b1 (k := 0) (by decide)
    have x6 : gI (f_M_takeX τ1 (nI 0)) 12 30 = nI i := ((same3_X x1).2.2.trans b5.2.2).trans g12
    rw [x6]
    generalize f_M_takeX τ1 (nI 0) = τ2 at *
    by_cases i4 : i = 4
    · subst i4
      rw [if_pos (show nI 4 = 4 by decide), if_pos (show nI 4 = 4 by decide)]
      obtain ⟨z1, z2, z3⟩ := set_R σ1 13 false (P := 0) (p := 0) 0 rfl (by decide)
      have ez : f_Real_setZero σ1 13 false = f_Real_set σ1 13 false 0 0 := rfl
      rw [ez]
      have rc : RC b (f_Real_set σ1 13 false 0 0) := RC_P0 b2 (frP_R z1 (by decide)) (by rw [z2]; exact b2.now)
      have r12 := RealIs_frR b6 z1 (by decide)
      generalize f_Real_set σ1 13 false 0 0 = σ2 at *
      cases he : endsN b.w b.now with
      | true =>
        rw [if_pos (rfl : true = true)]
        have : f_PS_compare σ2 0 = σ2 := by
          unfold f_PS_compare
          try dsimp only
          rw [ends_A rc b1, he, if_pos (rfl : true = true)]
        rw [this]
        exact ⟨b, b1, rc, b3⟩
      | false =>
        rw [if_neg Bool.false_ne_true]
        obtain ⟨c, c1, c2, c3, c4⟩ := compare_J (n := 0) (tst := true) (B := zeroR) b1 rc x5 (by rw [x3, b4', he]) he (by decide) r12 z3 (fun q => by cases q) (fun _ => ⟨rfl, _, x4⟩)
        rcases c4 with ⟨-, d⟩ | ⟨-, d⟩
        · exact ⟨c, c1, d, c2⟩
        · exact ⟨c, c1, d, c2⟩
    · have n4 : ¬ nI i = 4 := by rcases hi with rfl | rfl | rfl | rfl <;> first | decide | exact absurd rfl i4
      rw [if_neg n4, if_neg n4, ends_A b2 b1]
      cases he : endsN b.w b.now with
      | true =>
        rw [if_pos (rfl : true = true), if_pos (rfl : true = true)]
        exact ⟨b, b1, b2, b3⟩
      | false =>
        rw [if_neg Bool.false_ne_true, if_neg Bool.false_ne_true]
        have pA := regN_ok b1 0
        rw [x4.1, top_minus pA, top_power pA, b6.1]
        obtain ⟨s, hs⟩ : ∃ s : Bool, s = (decide (i = 0) && !(regN b 0).1) := ⟨_, rfl⟩
        have e1 : (if nI i = 0 then (if (regN b 0).1 = true then false else true) else false) = s := by
          rw [hs]
          rcases hi with rfl | rfl | rfl | rfl
          · rw [if_pos (show nI 0 = 0 by decide)]
            cases (regN b 0).1 <;> rfl
          · rw [if_neg (show ¬ nI 1 = 0 by decide)]
            rfl
          · exact absurd rfl i4
          · exact absurd rfl i5
        have e2 : nI (regN b 0).2.1 + (if nI i = 0 then (if (regN b 0).1 = true then (0 : Int32) else 32768) else 0) = nI (topN (s, (regN b 0).2)) := by
          rw [top_sum, Int32.add_comm]
          congr 1
          rw [hs]
          rcases hi with rfl | rfl | rfl | rfl
          · rw [if_pos (show nI 0 = 0 by decide)]
            cases (regN b 0).1 <;> rfl
          · rw [if_neg (show ¬ nI 1 = 0 by decide)]
            rfl
          · exact absurd rfl i4
          · exact absurd rfl i5
        rw [e1, e2]
        have rc : RC b (sZ σ1 15 12 s) := RC_P0 b2 ⟨fun k x _ _ _ _ => rfl, fun k x _ _ _ _ _ => rfl, fun k x _ _ _ _ q => by
          rw [gZ_sZ]
          by_cases z : k = 15
          · rw [if_pos z, if_neg (fun e => q ⟨z, by omega, by omega⟩)]
          · rw [if_neg z]⟩ b2.now
        have r12 : RealIs (sZ σ1 15 12 s) 12 s (regN b 0).2.1 (regN b 0).2.2 := ⟨by rw [gZ_sZ, if_pos rfl, if_pos rfl], b6.2⟩
        have rm : RM b (sI τ2 13 30 (nI (topN (s, (regN b 0).2)))) := RM_X0 x5 (frX_I _ 13 _ _ (by decide)) (by rw [eq_gI (by decide)]; exact x5.now)
        exact ⟨_, AOK_keep b1 0 (R := (s, (regN b 0).2)) pA, (keep_C rc b1 (k := 0) (R := (s, (regN b 0).2)) (by decide) (by decide) r12).1, (becomeX_M rm b1 (k := 0) (R := (s, (regN b 0).2)) (by decide) (self_gI _ _ _ _) x4.2.1 pA).1⟩
/-! steps -/
theorem told2 {τ : St} : f_MS_told τ 2 = (gI τ 30 42, sI τ 26 42 0) := by
  have c1 : ¬ (2 : Int32) < 0 := by decide
  have c2 : (2 : Int32) ≤ 3 := by decide
  have g : gI (sI τ 26 42 (bI false)) 26 42 ≤ 0 := by
    rw [self_gI]
    decide
  have e : bI false = (0 : Int32) := rfl
  unfold f_MS_told
  try dsimp only
  rw [if_neg c1, if_pos c2, if_pos g, if_neg (show ¬ (2 : Int32) = 0 by decide), if_neg (show ¬ (2 : Int32) = 1 by decide), if_pos (rfl : (2 : Int32) = 2), e]
  rw [eq_gI (by decide)]
theorem told3 {τ : St} : f_MS_told τ 3 = ((if gZ τ 31 42 = true then 1 else 0), sI τ 26 42 0) := by
  have c1 : ¬ (3 : Int32) < 0 := by decide
  have c2 : (3 : Int32) ≤ 3 := by decide
  have g : gI (sI τ 26 42 (bI false)) 26 42 ≤ 0 := by
    rw [self_gI]
    decide
  have e : bI false = (0 : Int32) := rfl
  unfold f_MS_told
  try dsimp only
  rw [if_neg c1, if_pos c2, if_pos g, if_neg (show ¬ (3 : Int32) = 0 by decide), if_neg (show ¬ (3 : Int32) = 1 by decide), if_neg (show ¬ (3 : Int32) = 2 by decide), e]
  rfl
/-- a step's answer is kept -/
theorem step_fin {K : K6} {a : Ab} {σ s τ : St} {r : Int32 × St} {R : Nat × Ra} (ha : AOK K a) (hc : RC a σ) (hm : RM a τ) (ov : gZ τ 9 30 = false) (ne : endsN a.w a.now = false) (f : frP σ s) (t7 : gI s 7 3 = nI (a.now ||| R.1)) (o4 : endsN a.w R.1 = false → RaIs s 14 R.2) (ko : KOut τ r a.w 2 R) : ∃ b, AOK K b ∧ ((endsN a.w R.1 = true ∧ f_Ctl_ends s = true ∧ RC b s ∧ gZ (f_M_say r.2 r.1) 9 30 = true ∧ RM b (f_M_say r.2 r.1)) ∨ (endsN a.w R.1 = false ∧ f_Ctl_ends s = false ∧ RC b (f_PS_keep s 0 14) ∧ gZ (f_M_say r.2 r.1) 9 30 = false ∧ RM b (f_M_becomeX (f_M_fromSteps (f_M_say r.2 r.1) 2) 0) ∧ (∀ j x, 27 ≤ j → j ≤ 36 → gI (f_M_becomeX (f_M_fromSteps (f_M_say r.2 r.1) 2) 0) j x = gI r.2 j x ∧ gZ (f_M_becomeX (f_M_fromSteps (f_M_say r.2 r.1) 2) 0) j x = gZ r.2 j x) ∧ same3 τ (f_M_becomeX (f_M_fromSteps (f_M_say r.2 r.1) 2) 0))) := by
  obtain ⟨k1, k2, k3, k4⟩ := ko
  have n6 := ha.now
  have hb : AOK K (nowA a R.1) := AOK_now ha k3
  have rc : RC (nowA a R.1) s := RC_P hc f t7
  have w2 : gI r.2 2 30 = nI a.w := by rw [(k2 2 30 (by decide) (by decide) (by decide)).1]; exact hm.w
  have g8 : gI r.2 8 30 = nI a.now := by rw [(k2 8 30 (by decide) (by decide) (by decide)).1]; exact hm.now
  have g9 : gZ r.2 9 30 = false := by rw [(k2 9 30 (by decide) (by decide) (by decide)).2.2]; exact ov
  rw [k1, say_M w2 ha.w k3, g8, g9, Bool.false_or, nI_or _ _ (by omega) (by omega)]
  have fx : frX τ (sZ (sI r.2 8 30 (nI (a.now ||| R.1))) 9 30 (endsN a.w R.1)) := frX_trans (frX_M k2) (frX_trans (frX_I _ 8 _ _ (by decide)) (frX_Z _ 9 _ _ (by decide)))
  have rm : RM (nowA a R.1) (sZ (sI r.2 8 30 (nI (a.now ||| R.1))) 9 30 (endsN a.w R.1)) := RM_X hm fx (by rw [gI_sZ, self_gI])
  have z9 : gZ (sZ (sI r.2 8 30 (nI (a.now ||| R.1))) 9 30 (endsN a.w R.1)) 9 30 = endsN a.w R.1 := by rw [gZ_sZ, if_pos rfl, if_pos rfl]
  have fI : ∀ j x, 27 ≤ j → gI (sZ (sI r.2 8 30 (nI (a.now ||| R.1))) 9 30 (endsN a.w R.1)) j x = gI r.2 j x := fun j x q => by rw [gI_sZ, eq_gI (by omega)]
  have fJ : ∀ j x, gJ (sZ (sI r.2 8 30 (nI (a.now ||| R.1))) 9 30 (endsN a.w R.1)) j x = gJ r.2 j x := fun j x => rfl
  have fZ : ∀ j x, 27 ≤ j → gZ (sZ (sI r.2 8 30 (nI (a.now ||| R.1))) 9 30 (endsN a.w R.1)) j x = gZ r.2 j x := fun j x q => by rw [gZ_sZ, if_neg (by omega)]; rfl
  generalize sZ (sI r.2 8 30 (nI (a.now ||| R.1))) 9 30 (endsN a.w R.1) = u at *
  have en : f_Ctl_ends s = endsN a.w R.1 := by rw [ends_A rc hb, nowA_ne ne]
  cases he : endsN a.w R.1 with
  | true => exact ⟨_, hb, Or.inl ⟨rfl, by rw [en, he], rc, by rw [z9, he], rm⟩⟩
  | false =>
    have ra := o4 he
    obtain ⟨re, rl⟩ := RealIs_Ra ra
    obtain ⟨p, p1, p2, p3⟩ := k4 he
    have tp := top_Ra (R := R.2) p1 p2 ra.2.2.2.1 ra.2.2.2.2
    have rg : RegIs u 110 111 2 (reR R.2) := ⟨by rw [fI 110 2 (by decide)]; exact tp, by rw [fJ 111 2]; exact p3, rl⟩
    have e2 : f_M_fromSteps u 2 = f_M_fromSteps u (nI 2) := rfl
    obtain ⟨q1, q2, q3, q4, -⟩ := from_X (r := 2) (by decide) rg
    obtain ⟨-, -, q6, -, q8⟩ := from_M (τ := u) (r := 2) (by decide)
    rw [e2]
    generalize f_M_fromSteps u (nI 2) = u2 at *
    have rm2 : RM (nowA a R.1) u2 := RM_X0 rm q1 (by rw [q2]; exact rm.now)
    obtain ⟨m1, m2, m3, m4⟩ := becomeX_M rm2 hb (k := 0) (by decide) q4.1 q4.2.1 q4.2.2
    have m1' : RM (keepA (nowA a R.1) 0 (reR R.2)) (f_M_becomeX u2 0) := m1
    have m2' : ∀ j y, j ≠ 101 → gI (f_M_becomeX u2 0) j y = gI u2 j y := m2
    have m4' : ∀ j y, j ≠ 103 → gZ (f_M_becomeX u2 0) j y = gZ u2 j y := m4
    have kc := (keep_C rc hb (k := 0) (x := 14) (by decide) (by decide) re).1
    refine ⟨_, AOK_keep hb 0 rl, Or.inr ⟨rfl, by rw [en, he], kc, by rw [z9, he], m1', fun j x h1 h2 => ⟨?_, ?_⟩, ?_⟩⟩
    · rw [m2' j x (by omega), q6 j x (by omega) (by omega), fI j x h1]
    · rw [m4' j x (by omega), q8 j x, fZ j x h1]
    · have s3 := same3_X (frX_trans fx q1)
      exact ⟨(m2' 10 30 (by decide)).trans s3.1, (m2' 11 30 (by decide)).trans s3.2.1, (m2' 12 30 (by decide)).trans s3.2.2⟩
theorem remS_some {w : Nat} {A B : Re} (h : endsN w (remS w A B).1 = false) : ((remS w A B).1 % 2 = 0 ↔ (remS w A B).2.2.isSome = true) ∧ ∀ P Q, (remS w A B).2.2 = some (P, Q) → Q < 8 := by
  unfold remS at *
  cases hs : setS w A B (remC A B) with
  | some R =>
    rw [hs] at h
    have h' : endsN w R.1 = false := h
    have r1 : R.1 = 1 := by
      unfold setS at hs
      by_cases c1 : (isNan A.2.1 A.2.2 || isNan B.2.1 B.2.2) = true
      · rw [if_pos c1] at hs
        cases hs
        rfl
      · rw [if_neg c1] at hs
        by_cases c2 : remC A B = true
        · rw [if_pos c2] at hs
          cases hs
          rfl
        · rw [if_neg c2] at hs
          by_cases c3 : denS A B = 2 ∧ w / 2 % 2 = 0
          · rw [if_pos c3] at hs
            cases hs
            exfalso
            have e : endsN w 2 = false := h'
            rw [ends2, decide_eq_true (show ¬ w / 2 % 2 = 1 by omega)] at e
            cases e
          · rw [if_neg c3] at hs
            cases hs
    refine ⟨?_, fun P Q q => ?_⟩
    · show R.1 % 2 = 0 ↔ (none : Option (Bool × Nat)).isSome = true
      rw [r1]
      decide
    · cases q
  | none =>
    refine ⟨?_, fun P Q q => ?_⟩
    · show (denS A B ||| (remV w A B).1) % 2 = 0 ↔ (some (remP A B, remQ A B)).isSome = true
      have v := (SPz_told w 64 A.1 (remN A B) false (remE A B)).2
      have v' : (remV w A B).1 % 8 = 0 := v
      have d : denS A B = 0 ∨ denS A B = 2 := by
        unfold denS
        split
        · exact Or.inr rfl
        · exact Or.inl rfl
      have t : (denS A B ||| (remV w A B).1).testBit 0 = false := by
        rw [Nat.testBit_or, ntb, ntb]
        rcases d with d | d <;> rw [d] <;> simp <;> omega
      rw [ntb] at t
      have t2 := of_decide_eq_false t
      rw [Nat.pow_zero, Nat.div_one] at t2
      constructor
      · intro _
        rfl
      · intro _
        omega
    · have q' : some (remP A B, remQ A B) = some (P, Q) := q
      cases q'
      unfold remQ
      split
      · decide
      · exact Nat.mod_lt _ (by decide)
theorem quo_c : ∀ (P : Bool) (Q : Nat), Q < 8 → (((if P = true then (1024 : Int32) else 0) ||| (if nI Q &&& 4 = 0 then 0 else 256)) ||| (if nI Q &&& 2 = 0 then 0 else 16384)) ||| (if nI Q &&& 1 = 0 then 0 else 512) = nI (cndN (Q.testBit 2) (Q.testBit 0) P (Q.testBit 1)) := by
  intro P
  cases P <;> decide
theorem quo_m : ∀ Q, Q < 8 → (if jrem (nI Q / 4) 2 = 1 then true else false) = Q.testBit 2 ∧ (if jrem (nI Q / 2) 2 = 1 then true else false) = Q.testBit 1 ∧ (if jrem (nI Q) 2 = 1 then true else false) = Q.testBit 0 := by decide
theorem show_C {a : Ab} {σ : St} (h : RC a σ) {P : Bool} {Q : Nat} (hP : gZ σ 19 25 = P) (hQ : gI σ 20 25 = nI Q) (q8 : Q < 8) : RC (Ab.mk17 a.m a.r a.e a.top a.w a.told (Q.testBit 2) (Q.testBit 0) (P) (Q.testBit 1) a.kc a.kp a.ko a.lc a.lp a.lo a.now) (f_PS_showQuotient σ) := by
  unfold f_PS_showQuotient
  try dsimp only
  rw [hP, hQ]
  try dsimp only
  simp only [self_gI, sI_sI]
  exact cond_RC h _ _ _ _ (quo_c P Q q8)
theorem root_J {K : K6} {a : Ab} {σ τ : St} (ha : AOK K a) (hc : RC a σ) (hm : RM a τ) (ov : gZ τ 9 30 = false) (ne : endsN a.w a.now = false) (hA : RealIs σ 12 (regN a 0).1 (regN a 0).2.1 (regN a 0).2.2) : Jx K (if f_Ctl_ends (f_Oper_operate σ 4 12 12 14) = true then f_Oper_operate σ 4 12 12 14 else f_PS_keep (f_Oper_operate σ 4 12 12 14) 0 14) (if gZ (f_M_operate τ 6 (f_M_topOf τ 0) (f_M_fractionOf τ 0) 0 0) 9 30 = true then f_M_operate τ 6 (f_M_topOf τ 0) (f_M_fractionOf τ 0) 0 0 else f_M_becomeX (f_M_operate τ 6 (f_M_topOf τ 0) (f_M_fractionOf τ 0) 0 0) 0) := by
  obtain ⟨tA, fA⟩ := of_M hm ha (k := 0) (by decide)
  have tA' : f_M_topOf τ 0 = nI (topN (regN a 0)) := tA
  have fA' : uN (f_M_fractionOf τ 0) = (regN a 0).2.2 := fA
  have oc := operate_C (K := 4) (by decide) hc.w ha.w hc.now ha.now ne hA hA (show 12 ≠ 14 by decide) (show 12 ≠ 14 by decide)
  have xo := Moperate_M (o := 6) (B := (false, 0, 0)) (fB := 0) (by decide) hm.w ha.w fA' rfl (regN_ok ha 0) (by decide)
  have e : opS (kOf 6) a.w (ordA 6 (regN a 0) (false, 0, 0)) (ordB 6 (regN a 0) (false, 0, 0)) = opS 4 a.w (regN a 0) (regN a 0) := rfl
  rw [e] at xo
  rw [tA']
  have rk := op_keep (k := 0) ha hc hm ov ne (by decide) oc xo 0
  obtain ⟨b, b1, b2, b3, b4⟩ := rk
  refine ⟨b, b1, ?_, b2⟩
  rcases b4 with ⟨-, d⟩ | ⟨-, d⟩
  · exact d
  · exact d
