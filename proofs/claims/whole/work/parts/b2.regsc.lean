/-! pushing -/
def pushA (a : Ab) (R : Re) : Ab := keepA (Ab.mk17 a.m a.r a.e (plN a 7) a.w a.told a.c0 a.c1 a.c2 a.c3 a.kc a.kp a.ko a.lc a.lp a.lo a.now) 0 R
theorem AOK_top {K : K6} {a : Ab} (h : AOK K a) (k : Nat) : AOK K (Ab.mk17 a.m a.r a.e (plN a k) a.w a.told a.c0 a.c1 a.c2 a.c3 a.kc a.kp a.ko a.lc a.lp a.lo a.now) := (AOK_mk h.m h.r (plN_lt a k) h.w h.told h.kc h.kp h.ko h.lc h.lp h.lo h.now h.kk)
theorem put_C' {K : K6} {a : Ab} {σ : St} {x : Nat} {R : Re} (h : RC a σ) (ha : AOK K a) (hx : 12 ≤ x ∧ x ≤ 15) (hR : RealIs σ x R.1 R.2.1 R.2.2) : RC (pushA a R) (f_PS_keep (sI σ 0 0 (f_PS_place σ 7)) 0 x) := by
  have p : f_PS_place σ 7 = nI (plN a 7) := place_C h ha (k := 7) (by decide)
  rw [p]
  have h1 := top_RC h (plN a 7)
  have hR' : RealIs (sI σ 0 0 (nI (plN a 7))) x R.1 R.2.1 R.2.2 := ⟨hR.1, by rw [eq_gI (by decide)]; exact hR.2.1, hR.2.2⟩
  exact (keep_C h1 (AOK_top ha 7) (k := 0) (by decide) hx hR').1
theorem put_M' {K : K6} {a : Ab} {τ : St} {R : Re} (h : RM a τ) (ha : AOK K a) (hX : XIs τ R) : RM (pushA a R) (f_M_becomeX (sI τ 1 30 (jrem (gI τ 1 30 + 7) 8)) 0) := by
  have t := ha.top
  have e : jrem (gI τ 1 30 + 7) 8 = nI (plN a 7) := by
    have : nI a.top + 7 = nI (a.top + 7) := nI_add a.top 7
    rw [h.top, this]
    exact pk_rem (d := 8) (by omega) (by decide) (by decide)
  rw [e]
  have h1 := top_RM h (plN a 7)
  exact (becomeX_M h1 (AOK_top ha 7) (k := 0) (by decide) (by rw [eq_gI (by decide)]; exact hX.1) hX.2.1 hX.2.2).1
theorem push_0 {K : K6} {a : Ab} {σ τ : St} {x : Nat} {R : Re} (ha : AOK K a) (hc : RC a σ) (hm : RM a τ) (ov : OV a τ) (hx : 12 ≤ x ∧ x ≤ 15) (he : a.e (plN a 7) = true) (hR : endsN a.w a.now = false → RealIs σ x R.1 R.2.1 R.2.2) (hX : endsN a.w a.now = false → XIs τ R) : Jx K (f_PS_push σ x) (f_M_push τ false) := by
  have p : f_PS_place σ 7 = nI (plN a 7) := place_C hc ha (k := 7) (by decide)
  have g : gZ σ 101 (jat (f_PS_place σ 7)) = true := by rw [p, jat_pl, hc.e _ (plN_lt a 7), he]
  have ov' : gZ τ 9 30 = endsN a.w a.now := ov
  unfold f_PS_push f_M_push
  try dsimp only
  rw [g, if_pos (rfl : true = true)]
  try dsimp only
  rw [ends_A hc ha, ov', if_neg Bool.false_ne_true]
  cases hn : endsN a.w a.now with
  | true =>
    rw [if_pos (rfl : true = true), if_pos (rfl : true = true)]
    exact ⟨a, ha, hc, hm⟩
  | false =>
    rw [if_neg Bool.false_ne_true, if_neg Bool.false_ne_true]
    exact ⟨pushA a R, AOK_keep (AOK_top ha 7) 0 (hX hn).2.2, put_C' hc ha hx (hR hn), put_M' hm ha (hX hn)⟩
theorem push_1 {K : K6} {a : Ab} {σ τ : St} {x : Nat} (ha : AOK K a) (hc : RC a σ) (hm : RM (nowA a 1) τ) (ov : OV (nowA a 1) τ) (hx : 12 ≤ x ∧ x ≤ 15) (he : a.e (plN a 7) = false) : Jx K (f_PS_push σ x) (f_M_push τ true) := by
  have n6 := ha.now
  have hb : AOK K (nowA a 1) := AOK_now ha (by decide)
  have p : f_PS_place σ 7 = nI (plN a 7) := place_C hc ha (k := 7) (by decide)
  have g : gZ σ 101 (jat (f_PS_place σ 7)) = false := by rw [p, jat_pl, hc.e _ (plN_lt a 7), he]
  obtain ⟨i1, i2, i3⟩ := ind_R (f_Ctl_tell σ 1) x
  have t7 : gI (f_Real_setIndefinite (f_Ctl_tell σ 1) x) 7 3 = nI (a.now ||| 1) := by rw [i2, tell_7, hc.now, show (1 : Int32) = nI 1 from rfl, nI_or _ _ (by omega) (by decide)]
  have rc : RC (nowA a 1) (f_Real_setIndefinite (f_Ctl_tell σ 1) x) := RC_P hc (frP_R (frR_trans (frR_tell x σ 1) i1) hx) t7
  have ov' : gZ τ 9 30 = endsN (nowA a 1).w (nowA a 1).now := ov
  unfold f_PS_push f_M_push
  try dsimp only
  rw [g, if_neg Bool.false_ne_true, if_pos (rfl : true = true)]
  try dsimp only
  rw [ends_A rc hb, ov']
  generalize f_Real_setIndefinite (f_Ctl_tell σ 1) x = s at *
  cases hn : endsN (nowA a 1).w (nowA a 1).now with
  | true =>
    rw [if_pos (rfl : true = true), if_pos (rfl : true = true)]
    exact ⟨_, hb, rc, hm⟩
  | false =>
    rw [if_neg Bool.false_ne_true, if_neg Bool.false_ne_true]
    have h2 : RM (nowA a 1) (sJ (sI τ 13 30 65535) 14 30 (-4611686018427387904)) := RM_X0 hm (frX_trans (frX_I _ 13 _ _ (by decide)) (frX_J _ 14 _ _ (by decide))) (by
      rw [gI_sJ, eq_gI (by decide)]
      exact hm.now)
    have x2 : XIs (sJ (sI τ 13 30 65535) 14 30 (-4611686018427387904)) indR := ⟨by rw [gI_sJ, self_gI]; rfl, by rw [gJ_sJ, if_pos rfl, if_pos rfl]; rfl, by decide⟩
    have e : sJ (sI (sI τ 1 30 (jrem (gI τ 1 30 + 7) 8)) 13 30 65535) 14 30 (-4611686018427387904) = sI (sJ (sI τ 13 30 65535) 14 30 (-4611686018427387904)) 1 30 (jrem (gI (sJ (sI τ 13 30 65535) 14 30 (-4611686018427387904)) 1 30 + 7) 8) := by
      apply St_ext <;> intro j y
      · simp only [gI_sI, gI_sJ]
        by_cases q : j = 13
        · subst q
          simp
        · simp [q]
      · simp only [gJ_sI, gJ_sJ]
      · rfl
    rw [e]
    exact ⟨pushA (nowA a 1) indR, AOK_keep (AOK_top hb 7) 0 (by decide), put_C' rc hb hx i3, put_M' h2 hb x2⟩
