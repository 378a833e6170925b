/-! the codes of op 1 and 5 with registers -/
theorem exchange_J {K : K6} {a : Ab} {σ τ : St} {i : Nat} (ha : AOK K a) (hc : RC a σ) (hm : RM a τ) (ov : OV a τ) (hi : i < 8) (g12 : gI τ 12 30 = nI i) : Jx K (f_PS_exchange σ (nI i)) (f_M_change τ) := by
  obtain ⟨b, b1, b2, b3, b4, b5, b6, b7⟩ := two_J ha hc hm ov hi
  have w1 : gI (f_M_want τ 0) 12 30 = nI i := (same3_want hm ha (k := 0) (by decide)).2.2.trans g12
  unfold f_PS_exchange f_M_change
  try dsimp only
  rw [w1]
  generalize f_PS_need (f_PS_need σ 0 12) (nI i) 13 = σ2 at *
  generalize f_M_want (f_M_want τ 0) (nI i) = τ2 at *
  have b4' : gZ τ2 9 30 = endsN b.w b.now := b4
  have g12' : gI τ2 12 30 = nI i := b5.2.2.trans g12
  rw [ends_A b2 b1, b4', g12']
  cases he : endsN b.w b.now with
  | true =>
    rw [if_pos (rfl : true = true), if_pos (rfl : true = true)]
    exact ⟨b, b1, b2, b3⟩
  | false =>
    rw [if_neg Bool.false_ne_true, if_neg Bool.false_ne_true]
    obtain ⟨t1, t2⟩ := of_M b3 b1 (k := 0) (by decide)
    have t1' : f_M_topOf τ2 0 = nI (topN (regN b 0)) := t1
    have t2' : uN (f_M_fractionOf τ2 0) = (regN b 0).2.2 := t2
    obtain ⟨x1, x2, x3, x4⟩ := takeX_M b3 b1 hi
    have x5 := RM_take b3 b1 hi
    have x6 := (same3_X x1).2.2.trans g12'
    generalize f_M_takeX τ2 (nI i) = τ3 at *
    obtain ⟨k1, k2, k3, k4⟩ := keep_C b2 b1 (k := 0) (x := 13) (by decide) (by decide) b7
    have k1' : RC (keepA b 0 (regN b i)) (f_PS_keep σ2 0 13) := k1
    have r12 : RealIs (f_PS_keep σ2 0 13) 12 (regN b 0).1 (regN b 0).2.1 (regN b 0).2.2 := ⟨(k4 15 12 (by omega) (by decide)).trans b6.1, (k2 16 12 (by omega)).trans b6.2.1, by
      have := k3 17 12 (by omega)
      exact (congrArg uN this).trans b6.2.2.1, b6.2.2.2⟩
    have a2 := AOK_keep b1 0 (regN_ok b1 i)
    obtain ⟨m1, m2, m3, m4⟩ := becomeX_M x5 b1 (k := 0) (by decide) x4.1 x4.2.1 x4.2.2
    have m1' : RM (keepA b 0 (regN b i)) (f_M_becomeX τ3 0) := m1
    have m5 : gI (f_M_becomeX τ3 0) 12 30 = nI i := (m2 12 30 (by decide)).trans x6
    generalize f_PS_keep σ2 0 13 = σ3 at *
    generalize f_M_becomeX τ3 0 = τ4 at *
    have l1 := (keep_C k1' a2 (x := 12) hi (by decide) r12).1
    have h2 : RM (keepA b 0 (regN b i)) (sJ (sI τ4 13 30 (f_M_topOf τ2 0)) 14 30 (f_M_fractionOf τ2 0)) := RM_X0 m1' (frX_trans (frX_I _ 13 _ _ (by decide)) (frX_J _ 14 _ _ (by decide))) (by
      rw [gI_sJ, eq_gI (by decide)]
      exact m1'.now)
    have g6 : gI (sJ (sI τ4 13 30 (f_M_topOf τ2 0)) 14 30 (f_M_fractionOf τ2 0)) 12 30 = nI i := by
      rw [gI_sJ, eq_gI (by decide)]
      exact m5
    rw [g6]
    have l2 := (becomeX_M h2 a2 (R := regN b 0) hi (by rw [gI_sJ, self_gI]; exact t1') (by rw [gJ_sJ, if_pos rfl, if_pos rfl]; exact t2') (regN_ok b1 0)).1
    exact ⟨_, AOK_keep a2 i (regN_ok b1 0), l1, l2⟩
theorem move_J {K : K6} {a : Ab} {σ τ : St} {r i : Nat} (ha : AOK K a) (hc : RC a σ) (hm : RM a τ) (ov : OV a τ) (hr : r = 0 ∨ r = 2 ∨ r = 3) (hi : i < 8) (g11 : gI τ 11 30 = nI r) (g12 : gI τ 12 30 = nI i) : Jx K (f_PS_move σ (nI r) (nI i)) (f_M_copy τ) := by
  unfold f_PS_move f_M_copy
  try dsimp only
  rw [g11]
  rcases hr with rfl | hr
  · rw [if_pos (show nI 0 = 0 by decide), if_pos (show nI 0 = 0 by decide), g12, place_C hc ha hi, st_M hm ha hi, jat_pl]
    exact ⟨(Ab.mk17 a.m a.r (updt a.e (plN a i) true) a.top a.w a.told a.c0 a.c1 a.c2 a.c3 a.kc a.kp a.ko a.lc a.lp a.lo a.now), (AOK_mk ha.m ha.r ha.top ha.w ha.told ha.kc ha.kp ha.ko ha.lc ha.lp ha.lo ha.now ha.kk), emp_RC hc _ _, emp_RM hm _ _⟩
  · have r0 : ¬ nI r = 0 := by rcases hr with rfl | rfl <;> decide
    have e1 : f_PS_need σ 0 12 = f_PS_need σ (nI 0) 12 := rfl
    have e2 : f_M_want τ 0 = f_M_want τ (nI 0) := rfl
    rw [if_neg r0, if_neg r0, e1, e2]
    obtain ⟨-, -, n3⟩ := need_C hc ha (k := 0) (x := 12) (by decide) (by decide)
    have r1 := need_RC hc ha (k := 0) (x := 12) (by decide) (by decide)
    have w1 := (want_O hm ha (k := 0) (by decide)).1
    have v1 := OV_want hm ha ov (k := 0) (by decide)
    have s1 := same3_want hm ha (k := 0) (by decide)
    have a1 : AOK K (nowA a (lackN a 0)) := AOK_now ha (lackN_lt a 0)
    have rg : regN (nowA a (lackN a 0)) 0 = regN a 0 := (regN_now _ _ _).1
    rw [← rg] at n3
    try dsimp only
    generalize f_PS_need σ (nI 0) 12 = σ1 at *
    generalize f_M_want τ (nI 0) = τ1 at *
    generalize nowA a (lackN a 0) = b at *
    have v1' : gZ τ1 9 30 = endsN b.w b.now := v1
    rw [ends_A r1 a1, v1']
    cases he : endsN b.w b.now with
    | true =>
      rw [if_pos (rfl : true = true), if_pos (rfl : true = true)]
      exact ⟨b, a1, r1, w1⟩
    | false =>
      rw [if_neg Bool.false_ne_true, if_neg Bool.false_ne_true]
      obtain ⟨x1, x2, x3, x4⟩ := takeX_M w1 a1 (k := 0) (by decide)
      have x5 := RM_take w1 a1 (k := 0) (by decide)
      have x6 := same3_trans s1 (same3_X x1)
      have e3 : f_M_takeX τ1 0 = f_M_takeX τ1 (nI 0) := rfl
      rw [e3]
      generalize f_M_takeX τ1 (nI 0) = τ2 at *
      rw [x6.2.2.trans g12]
      have k1 := (keep_C r1 a1 (x := 12) hi (by decide) n3).1
      obtain ⟨m1, m2, -, -⟩ := becomeX_M x5 a1 hi x4.1 x4.2.1 x4.2.2
      have a2 := AOK_keep a1 i (regN_ok a1 0)
      have m3 : gI (f_M_becomeX τ2 (nI i)) 11 30 = nI r := (m2 11 30 (by decide)).trans (x6.2.1.trans g11)
      rw [m3]
      generalize f_PS_keep σ1 (nI i) 12 = σ3 at *
      generalize f_M_becomeX τ2 (nI i) = τ3 at *
      rcases hr with rfl | rfl
      · rw [if_neg (show ¬ nI 2 = 3 by decide), if_neg (show ¬ nI 2 = 3 by decide)]
        exact ⟨_, a2, k1, m1⟩
      · rw [if_pos (show nI 3 = 3 by decide), if_pos (show nI 3 = 3 by decide)]
        exact ⟨_, AOK_pop a2, pop_C k1 a2, (pop_M m1 a2).1⟩
/-! constants -/
def conR (i : Nat) : Re := (false, if i = 0 then 16383 else if i = 1 then 16384 else if i = 2 then 16383 else if i = 3 then 16384 else if i = 4 then 16381 else if i = 5 then 16382 else 0, if i = 0 then 9223372036854775808 else if i = 1 then 15319689349413178110 else if i = 2 then 13306513097844322492 else if i = 3 then 14488038916154245685 else if i = 4 then 11106046577046714265 else if i = 5 then 12786308645202655660 else 0)
theorem con_C {i : Nat} (hi : i < 7) : tb3.getD (jat (nI i)) 0 = nI (conR i).2.1 ∧ uN (tb4.getD (jat (nI i)) 0) = (conR i).2.2 ∧ (conR i).2.1 ≤ 32767 := by
  rcases (show i = 0 ∨ i = 1 ∨ i = 2 ∨ i = 3 ∨ i = 4 ∨ i = 5 ∨ i = 6 by omega) with rfl | rfl | rfl | rfl | rfl | rfl | rfl <;> decide
theorem con_M {τ : St} {i : Nat} (hi : i < 7) : ∃ f : Int64, f_MS_constant τ (if nI i = 6 then 0 else nI i + 1) 7 = sJ (sI (sI τ 26 42 0) 110 7 (nI (topN (conR i)))) 111 7 f ∧ uN f = (conR i).2.2 := by
  have g : gI (sI τ 26 42 0) 26 42 ≤ 0 := by
    rw [self_gI]
    decide
  have n7 : f_MS_none 7 = false := by decide
  have j7 : jat 7 = 7 := by decide
  have go : ∀ (c : Int32) (v : Int32) (f : Int64), ¬ c < 0 → c ≤ 6 → (if c = 0 then (0 : Int32) else 16383 + (if c = 2 then 1 else if c = 4 then 1 else if c = 5 then -2 else if c = 6 then -1 else 0)) = v → (if c = 0 then (0 : Int64) else if c = 1 then -9223372036854775808 else if c = 2 then -3127054724296373506 else if c = 3 then -5140230975865229124 else if c = 4 then -3958705157555305931 else if c = 5 then -7340697496662837351 else -5660435428506895956) = f → f_MS_constant τ c 7 = sJ (sI (sI τ 26 42 0) 110 7 v) 111 7 f := by
    intro c v f h1 h2 h3 h4
    unfold f_MS_constant
    try dsimp only
    rw [n7, if_neg Bool.false_ne_true, if_neg h1, if_pos h2, if_pos g, j7, h3, h4]
  rcases (show i = 0 ∨ i = 1 ∨ i = 2 ∨ i = 3 ∨ i = 4 ∨ i = 5 ∨ i = 6 by omega) with rfl | rfl | rfl | rfl | rfl | rfl | rfl
  · exact ⟨-9223372036854775808, go _ _ _ (by decide) (by decide) (by decide) (by decide), rfl⟩
  · exact ⟨-3127054724296373506, go _ _ _ (by decide) (by decide) (by decide) (by decide), rfl⟩
  · exact ⟨-5140230975865229124, go _ _ _ (by decide) (by decide) (by decide) (by decide), rfl⟩
  · exact ⟨-3958705157555305931, go _ _ _ (by decide) (by decide) (by decide) (by decide), rfl⟩
  · exact ⟨-7340697496662837351, go _ _ _ (by decide) (by decide) (by decide) (by decide), rfl⟩
  · exact ⟨-5660435428506895956, go _ _ _ (by decide) (by decide) (by decide) (by decide), rfl⟩
  · exact ⟨0, go _ _ _ (by decide) (by decide) (by decide) (by decide), rfl⟩
theorem from_X {τ : St} {r : Nat} {R : Re} (hr : r < 8) (h : RegIs τ 110 111 r R) : frX τ (f_M_fromSteps τ (nI r)) ∧ gI (f_M_fromSteps τ (nI r)) 8 30 = gI τ 8 30 ∧ gZ (f_M_fromSteps τ (nI r)) 9 30 = gZ τ 9 30 ∧ XIs (f_M_fromSteps τ (nI r)) R ∧ (∀ j, gI (f_M_fromSteps τ (nI r)) 110 j = gI τ 110 j ∧ gJ (f_M_fromSteps τ (nI r)) 111 j = gJ τ 111 j) := by
  obtain ⟨q1, q2, q3, q4, q5⟩ := from_M (τ := τ) hr
  refine ⟨⟨fun k x a => ⟨q3 k x (by omega) (by omega), q4 k x (by omega), q5 k x⟩, Byt_eq (fun k => q3 114 k (by decide) (by omega))⟩, q3 8 30 (by decide) (by omega), q5 9 30, ⟨?_, ?_, h.2.2⟩, fun j => ⟨q3 110 j (by decide) (by omega), q4 111 j (by omega)⟩⟩
  · rw [q1]
    exact h.1
  · rw [q2]
    exact h.2.1
theorem const_J {K : K6} {a : Ab} {σ τ : St} {i : Nat} (ha : AOK K a) (hc : RC a σ) (hm : RM a τ) (ov : OV a τ) (hi : i < 7) (g12 : gI τ 12 30 = nI i) : Jx K (f_PS_push (f_Real_set σ 14 false (tb3.getD (jat (nI i)) 0) (tb4.getD (jat (nI i)) 0)) 14) (f_M_push (f_M_fromSteps (f_MS_constant (f_M_isFull τ).2 (if gI (f_M_isFull τ).2 12 30 = 6 then 0 else gI (f_M_isFull τ).2 12 30 + 1) 7) 7) (f_M_isFull τ).1) := by
  obtain ⟨c1, c2, c3⟩ := con_C hi
  obtain ⟨s1, s2, s3⟩ := set_R σ 14 false (tb4.getD (jat (nI i)) 0) c1 c3
  rw [c2] at s3
  have rc : RC a (f_Real_set σ 14 false (tb3.getD (jat (nI i)) 0) (tb4.getD (jat (nI i)) 0)) := RC_P0 hc (frP_R s1 (by decide)) (by rw [s2]; exact hc.now)
  generalize f_Real_set σ 14 false (tb3.getD (jat (nI i)) 0) (tb4.getD (jat (nI i)) 0) = σ1 at *
  rw [isFull_M hm ha]
  try dsimp only
  have mid : ∀ t : St, gI t 12 30 = nI i → frX t (f_M_fromSteps (f_MS_constant t (if gI t 12 30 = 6 then 0 else gI t 12 30 + 1) 7) 7) ∧ gI (f_M_fromSteps (f_MS_constant t (if gI t 12 30 = 6 then 0 else gI t 12 30 + 1) 7) 7) 8 30 = gI t 8 30 ∧ gZ (f_M_fromSteps (f_MS_constant t (if gI t 12 30 = 6 then 0 else gI t 12 30 + 1) 7) 7) 9 30 = gZ t 9 30 ∧ XIs (f_M_fromSteps (f_MS_constant t (if gI t 12 30 = 6 then 0 else gI t 12 30 + 1) 7) 7) (conR i) := fun t g => by
    obtain ⟨f, k1, k2⟩ := con_M (τ := t) hi
    rw [g, k1]
    have rg : RegIs (sJ (sI (sI t 26 42 0) 110 7 (nI (topN (conR i)))) 111 7 f) 110 111 7 (conR i) := ⟨by rw [gI_sJ, self_gI], by rw [gJ_sJ, if_pos rfl, if_pos rfl]; exact k2, c3⟩
    obtain ⟨q1, q2, q3, q4, -⟩ := from_X (r := 7) (by decide) rg
    have fx : frX t (sJ (sI (sI t 26 42 0) 110 7 (nI (topN (conR i)))) 111 7 f) := frX_trans (frX_I _ 26 _ _ (by decide)) (frX_trans (frX_I _ 110 _ _ (by decide)) (frX_J _ 111 _ _ (by decide)))
    refine ⟨frX_trans fx q1, ?_, ?_, q4⟩
    · refine q2.trans ?_
      rw [gI_sJ, eq_gI (by decide), eq_gI (by decide)]
    · exact q3.trans rfl
  cases he : a.e (plN a 7) with
  | true =>
    rw [if_pos (rfl : true = true)]
    obtain ⟨m1, m2, m3, m4⟩ := mid τ g12
    exact push_0 ha rc (RM_X0 hm m1 (by rw [m2]; exact hm.now)) (by unfold OV; rw [m3]; exact ov) (by decide) he (fun _ => s3) (fun _ => m4)
  | false =>
    rw [if_neg Bool.false_ne_true]
    obtain ⟨y1, y2, y3⟩ := say1_M hm ha ov
    obtain ⟨m1, m2, m3, m4⟩ := mid (f_M_say τ 1) ((y3 12 30 (by decide)).1.trans g12)
    exact push_1 ha rc (RM_X0 y1 m1 (by rw [m2]; exact y1.now)) (by unfold OV; rw [m3]; exact y2) (by decide) he
