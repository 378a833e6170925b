/-- what is left when the power and the fraction are there -/
theorem RegIs_Rg {τ : St} {i : Nat} {R : Ra} (h : RgIs τ i R) (h0 : 0 ≤ R.2.1) (h1 : R.2.1 ≤ 32767) : RegIs τ 110 111 i (reR R) := by
  obtain ⟨p, p1, p2, p3⟩ := h
  exact ⟨top_Ra p1 p2 h0 h1, p3, by show R.2.1.toNat ≤ 32767; omega⟩
theorem push_M {K : K6} {a : Ab} {τ : St} {full : Bool} {R : Re} (hm : RM a τ) (ha : AOK K a) (ov : gZ τ 9 30 = false) (hX : full = false → XIs τ R) : RM (pushA a (if full then indR else R)) (f_M_push τ full) := by
  unfold f_M_push
  try dsimp only
  rw [ov, if_neg Bool.false_ne_true]
  try dsimp only
  cases full with
  | false =>
    rw [if_neg Bool.false_ne_true, if_neg Bool.false_ne_true]
    exact put_M' hm ha (hX rfl)
  | true =>
    rw [if_pos (rfl : true = true), if_pos (rfl : true = true)]
    have h2 : RM a (sJ (sI τ 13 30 65535) 14 30 (-4611686018427387904)) := RM_X0 hm (frX_trans (frX_I _ 13 _ _ (by decide)) (frX_J _ 14 _ _ (by decide))) (by
      rw [gI_sJ, eq_gI (by decide)]
      exact hm.now)
    have x2 : XIs (sJ (sI τ 13 30 65535) 14 30 (-4611686018427387904)) indR := ⟨by rw [gI_sJ, self_gI]; rfl, by rw [gJ_sJ, if_pos rfl, if_pos rfl]; rfl, by decide⟩
    have e : sJ (sI (sI τ 1 30 (jrem (gI τ 1 30 + 7) 8)) 13 30 65535) 14 30 (-4611686018427387904) = sI (sJ (sI τ 13 30 65535) 14 30 (-4611686018427387904)) 1 30 (jrem (gI (sJ (sI τ 13 30 65535) 14 30 (-4611686018427387904)) 1 30 + 7) 8) := by
      apply St_ext <;> intro j y
      · simp only [gI_sI, gI_sJ]
        by_cases q : j = 13
        · subst q
          simp
        · simp [q]
      · simp only [gJ_sI, gJ_sJ]
      · rfl
    rw [e]
    exact put_M' h2 ha x2
set_option maxHeartbeats 400000 in
theorem split_go {K : K6} {a : Ab} {σ τ : St} {full : Bool} (ha : AOK K a) (hc : RC a σ) (hm : RM a τ) (ov : gZ τ 9 30 = false) (ne : endsN a.w a.now = false) (hA : RealIs σ 12 (regN a 0).1 (regN a 0).2.1 (regN a 0).2.2) : Jx K (if f_Ctl_ends (f_Steps_extract σ 12 14 15) = true then f_Steps_extract σ 12 14 15 else f_PS_keep (sI (f_PS_keep (if full = true then f_Real_setIndefinite (f_Steps_extract σ 12 14 15) 15 else f_Steps_extract σ 12 14 15) 0 14) 0 0 (f_PS_place (f_PS_keep (if full = true then f_Real_setIndefinite (f_Steps_extract σ 12 14 15) 15 else f_Steps_extract σ 12 14 15) 0 14) 7)) 0 15) (if gZ (f_M_say (f_MS_extract (f_M_giveSteps τ 0 (f_M_topOf τ 0) (f_M_fractionOf τ 0)) 0 1 2).2 (f_MS_extract (f_M_giveSteps τ 0 (f_M_topOf τ 0) (f_M_fractionOf τ 0)) 0 1 2).1) 9 30 = true then f_M_say (f_MS_extract (f_M_giveSteps τ 0 (f_M_topOf τ 0) (f_M_fractionOf τ 0)) 0 1 2).2 (f_MS_extract (f_M_giveSteps τ 0 (f_M_topOf τ 0) (f_M_fractionOf τ 0)) 0 1 2).1 else f_M_push (f_M_fromSteps (f_M_becomeX (f_M_fromSteps (f_M_say (f_MS_extract (f_M_giveSteps τ 0 (f_M_topOf τ 0) (f_M_fractionOf τ 0)) 0 1 2).2 (f_MS_extract (f_M_giveSteps τ 0 (f_M_topOf τ 0) (f_M_fractionOf τ 0)) 0 1 2).1) 1) 0) 2) full) := by
  obtain ⟨u, u0, u1, u2, u3, u4, u5, u6⟩ := give1 ha hm
  rw [u0]
  obtain ⟨m1, m2, m3, m4⟩ := extract_M u3 u2 ha.w
  obtain ⟨c1, c2, c3, c4⟩ := extract_C hc.w ha.w hc.now ha.now ne hA
  have n6 := ha.now
  generalize extS a.w (regN a 0) = R at *
  have hb : AOK K (nowA a R.1) := AOK_now ha m3
  have rc : RC (nowA a R.1) (f_Steps_extract σ 12 14 15) := RC_P hc c1 c2
  generalize f_Steps_extract σ 12 14 15 = s at *
  generalize f_MS_extract u 0 1 2 = r at *
  have w2 : gI r.2 2 30 = nI a.w := by rw [(m2 2 30 (by decide) (by decide) (by decide)).1]; exact u4.w
  have g8 : gI r.2 8 30 = nI a.now := by rw [(m2 8 30 (by decide) (by decide) (by decide)).1]; exact u4.now
  have g9 : gZ r.2 9 30 = false := by rw [(m2 9 30 (by decide) (by decide) (by decide)).2.2, u5]; exact ov
  rw [m1, say_M w2 ha.w m3, g8, g9, Bool.false_or, nI_or _ _ (by omega) (by omega)]
  have fx : frX u (sZ (sI r.2 8 30 (nI (a.now ||| R.1))) 9 30 (endsN a.w R.1)) := frX_trans (frX_M m2) (frX_trans (frX_I _ 8 _ _ (by decide)) (frX_Z _ 9 _ _ (by decide)))
  have rm : RM (nowA a R.1) (sZ (sI r.2 8 30 (nI (a.now ||| R.1))) 9 30 (endsN a.w R.1)) := RM_X u4 fx (by rw [gI_sZ, self_gI])
  have z9 : gZ (sZ (sI r.2 8 30 (nI (a.now ||| R.1))) 9 30 (endsN a.w R.1)) 9 30 = endsN a.w R.1 := by rw [gZ_sZ, if_pos rfl, if_pos rfl]
  have fI : ∀ i, gI (sZ (sI r.2 8 30 (nI (a.now ||| R.1))) 9 30 (endsN a.w R.1)) 110 i = gI r.2 110 i := fun i => by rw [gI_sZ, eq_gI (by decide)]
  have fJ : ∀ i, gJ (sZ (sI r.2 8 30 (nI (a.now ||| R.1))) 9 30 (endsN a.w R.1)) 111 i = gJ r.2 111 i := fun i => rfl
  rw [ends_A rc hb, nowA_ne ne, z9]
  generalize sZ (sI r.2 8 30 (nI (a.now ||| R.1))) 9 30 (endsN a.w R.1) = v at *
  cases he : endsN a.w R.1 with
  | true =>
    rw [if_pos (rfl : true = true), if_pos (rfl : true = true)]
    exact ⟨_, hb, rc, rm⟩
  | false =>
    rw [if_neg Bool.false_ne_true, if_neg Bool.false_ne_true]
    obtain ⟨r14, r15⟩ := c4 he
    obtain ⟨g1, g2⟩ := m4 he
    obtain ⟨a14, l14⟩ := RealIs_Ra r14
    obtain ⟨a15, l15⟩ := RealIs_Ra r15
    have rg1 := RegIs_Rg g1 r14.2.2.2.1 r14.2.2.2.2
    have rg2 := RegIs_Rg g2 r15.2.2.2.1 r15.2.2.2.2
    have rv1 : RegIs v 110 111 1 (reR R.2.1) := ⟨by rw [fI]; exact rg1.1, by rw [fJ]; exact rg1.2.1, rg1.2.2⟩
    have rv2 : RegIs v 110 111 2 (reR R.2.2) := ⟨by rw [fI]; exact rg2.1, by rw [fJ]; exact rg2.2.1, rg2.2.2⟩
    -- the class
    obtain ⟨s', hs', rc', a14', a15'⟩ : ∃ s', (if full = true then f_Real_setIndefinite s 15 else s) = s' ∧ RC (nowA a R.1) s' ∧ RealIs s' 14 (reR R.2.1).1 (reR R.2.1).2.1 (reR R.2.1).2.2 ∧ RealIs s' 15 (if full then indR else reR R.2.2).1 (if full then indR else reR R.2.2).2.1 (if full then indR else reR R.2.2).2.2 := by
      refine ⟨_, rfl, ?_⟩
      cases full with
      | false =>
        rw [if_neg Bool.false_ne_true, if_neg Bool.false_ne_true]
        exact ⟨rc, a14, a15⟩
      | true =>
        rw [if_pos (rfl : true = true), if_pos (rfl : true = true)]
        obtain ⟨i1, i2, i3⟩ := ind_R s 15
        exact ⟨RC_P0 rc (frP_R i1 (by decide)) (by rw [i2]; exact rc.now), RealIs_frR a14 i1 (by decide), i3⟩
    have lX : (if full then indR else reR R.2.2).2.1 ≤ 32767 := by
      cases full with
      | false => exact l15
      | true => exact (show indR.2.1 ≤ 32767 by decide)
    rw [hs']
    obtain ⟨k1, k2, k3, k4⟩ := keep_C rc' hb (k := 0) (x := 14) (by decide) (by decide) a14'
    have k1' : RC (keepA (nowA a R.1) 0 (reR R.2.1)) (f_PS_keep s' 0 14) := k1
    have r15' : RealIs (f_PS_keep s' 0 14) 15 (if full then indR else reR R.2.2).1 (if full then indR else reR R.2.2).2.1 (if full then indR else reR R.2.2).2.2 := ⟨(k4 15 15 (by omega) (by decide)).trans a15'.1, (k2 16 15 (by omega)).trans a15'.2.1, (congrArg uN (k3 17 15 (by omega))).trans a15'.2.2.1, a15'.2.2.2⟩
    have hb2 := AOK_keep hb 0 (R := reR R.2.1) l14
    generalize f_PS_keep s' 0 14 = s2 at *
    have pc := put_C' k1' hb2 (x := 15) (by decide) r15'
    -- the reference
    have e1 : f_M_fromSteps v 1 = f_M_fromSteps v (nI 1) := rfl
    rw [e1]
    obtain ⟨q1, q2, q3, q4, q5⟩ := from_X (r := 1) (by decide) rv1
    generalize f_M_fromSteps v (nI 1) = v1 at *
    have rm1 : RM (nowA a R.1) v1 := RM_X0 rm q1 (by rw [q2]; exact rm.now)
    obtain ⟨b1, b2, b3, b4⟩ := becomeX_M rm1 hb (k := 0) (by decide) q4.1 q4.2.1 q4.2.2
    have b1' : RM (keepA (nowA a R.1) 0 (reR R.2.1)) (f_M_becomeX v1 0) := b1
    have b2' : ∀ j y, j ≠ 101 → gI (f_M_becomeX v1 0) j y = gI v1 j y := b2
    have b3' : ∀ j y, j ≠ 102 → gJ (f_M_becomeX v1 0) j y = gJ v1 j y := b3
    have b4' : ∀ j y, j ≠ 103 → gZ (f_M_becomeX v1 0) j y = gZ v1 j y := b4
    generalize f_M_becomeX v1 0 = v2 at *
    have rv2' : RegIs v2 110 111 2 (reR R.2.2) := ⟨by rw [b2' 110 2 (by decide), (q5 2).1]; exact rv2.1, by rw [b3' 111 2 (by decide), (q5 2).2]; exact rv2.2.1, rv2.2.2⟩
    have e2 : f_M_fromSteps v2 2 = f_M_fromSteps v2 (nI 2) := rfl
    rw [e2]
    obtain ⟨p1, p2, p3, p4, -⟩ := from_X (r := 2) (by decide) rv2'
    generalize f_M_fromSteps v2 (nI 2) = v3 at *
    have rm3 : RM (keepA (nowA a R.1) 0 (reR R.2.1)) v3 := RM_X0 b1' p1 (by rw [p2]; exact b1'.now)
    have pm := push_M (full := full) rm3 hb2 (by rw [p3, b4' 9 30 (by decide), q3, z9, he]) (fun _ => p4)
    exact ⟨_, AOK_keep (AOK_top hb2 7) 0 lX, pc, pm⟩
