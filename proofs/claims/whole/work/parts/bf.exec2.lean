/-! execute -/
def c_exec (σ : St) (a b c d : Int32) : Int32 × St :=
  let v1 : Int32 := f_PS_sortOf σ a b
  if v1 = 0 then
    let s1 : St := sI σ 7 3 0
    let s2 : St :=
        if b < 192 then
          f_PS_doWithMemory s1 a (jshr b 3 &&& 7)
        else
          if a = 1 then
            f_PS_doOwn s1 (jshr b 3 &&& 7) (b &&& 7)
          else
            f_PS_doWithRegisters s1 a (jshr b 3 &&& 7) (b &&& 7)
    let s3 : St := sI s2 1 0 (gI s2 1 0 ||| gI s2 7 3)
    if f_PS_keepsPointers a b = true then
      (0, sI (sI (sI s3 3 0 (a * 256 + b)) 4 0 c) 5 0 d)
    else
      (0, s3)
  else
    (v1, σ)
def badX (a b c d : Int32) : Bool := if a < 0 then true else if 7 < a then true else if b < 0 then true else if 255 < b then true else if c < 0 then true else if 1048575 < c then true else if d < 0 then true else if d ≤ 1048575 then false else true
def m_prep (s1 : St) (a b : Int32) : St := sZ (sI (sI (sI (sI s1 10 30 a) 11 30 (jrem (b / 8) 8)) 12 30 (jrem b 8)) 8 30 0) 9 30 false
def m_keeps (s6 : St) (b : Int32) : Bool := if (if b < 192 then false else true) = true then (if gI s6 10 30 = 3 then false else true) else (if gI s6 10 30 = 1 then (if 3 < gI s6 11 30 then false else f_M_execute_b164 s6) else f_M_execute_b164 s6)
def m_put (s6 : St) (k : Bool) (b c d : Int32) : St := if k = true then sI (sI (sI s6 5 30 (256 * gI s6 10 30 + b)) 6 30 c) 7 30 d else s6
def m_end (t5 : St) : St := sI (sI t5 3 30 (gI t5 3 30 ||| gI t5 8 30)) 0 30 0
def m_run (t4 : St) (b : Int32) : St := if (if b < 192 then false else true) = true then f_M_inRegisters t4 else f_M_inMemory t4
theorem exec_eq (τ : St) (a b c d : Int32) : f_M_execute τ a b c d = (if gI (sI τ 0 30 (bI (badX a b c d))) 0 30 ≤ 0 then (if f_M_kindOf a b ≤ 0 then (0, m_end (m_run (m_put (m_prep (sI τ 0 30 (bI (badX a b c d))) a b) (m_keeps (m_prep (sI τ 0 30 (bI (badX a b c d))) a b) b) b c d) b)) else (f_M_kindOf a b, sI τ 0 30 (bI (badX a b c d)))) else (0, sI τ 0 30 (bI (badX a b c d)))) := rfl
theorem badX_no {a b c d : Int32} (h : badX a b c d = false) : ∃ o k p q : Nat, a = nI o ∧ o < 8 ∧ b = nI k ∧ k < 256 ∧ c = nI p ∧ p < 1048576 ∧ d = nI q ∧ q < 1048576 := by
  unfold badX at h
  by_cases c1 : a < 0
  · rw [if_pos c1] at h
    cases h
  · rw [if_neg c1] at h
    by_cases c2 : 7 < a
    · rw [if_pos c2] at h
      cases h
    · rw [if_neg c2] at h
      by_cases c3 : b < 0
      · rw [if_pos c3] at h
        cases h
      · rw [if_neg c3] at h
        by_cases c4 : 255 < b
        · rw [if_pos c4] at h
          cases h
        · rw [if_neg c4] at h
          by_cases c5 : c < 0
          · rw [if_pos c5] at h
            cases h
          · rw [if_neg c5] at h
            by_cases c6 : 1048575 < c
            · rw [if_pos c6] at h
              cases h
            · rw [if_neg c6] at h
              by_cases c7 : d < 0
              · rw [if_pos c7] at h
                cases h
              · rw [if_neg c7] at h
                by_cases c8 : d ≤ 1048575
                · obtain ⟨e1, e2⟩ := i32_nat c1
                  obtain ⟨e3, e4⟩ := i32_nat c3
                  obtain ⟨e5, e6⟩ := i32_nat c5
                  obtain ⟨e7, e8⟩ := i32_nat c7
                  rw [i32_ltk' (n := 7) (by decide)] at c2
                  rw [i32_ltk' (n := 255) (by decide)] at c4
                  rw [i32_ltk' (n := 1048575) (by decide)] at c6
                  rw [i32_le (n := 1048575) (by decide)] at c8
                  exact ⟨_, _, _, _, e1, by omega, e3, by omega, e5, by omega, e7, by omega⟩
                · rw [if_neg c8] at h
                  cases h
theorem place_ok (c : Int32) : f_PS_isPlace c = !(if c < 0 then true else if 1048575 < c then true else false) := by
  have e : (1048576 ≤ c) ↔ 1048575 < c := by
    rw [i32_le' (n := 1048576) (by decide), i32_ltk' (n := 1048575) (by decide)]
    omega
  unfold f_PS_isPlace
  try dsimp only
  simp only [e]
  by_cases c1 : c < 0
  · rw [if_pos c1, if_pos c1]
    rfl
  · rw [if_neg c1, if_neg c1]
    by_cases c2 : 1048575 < c
    · rw [if_pos c2, if_pos c2]
      rfl
    · rw [if_neg c2, if_neg c2]
      rfl
theorem badX_C (a b c d : Int32) : badX a b c d = !(f_PS_isPattern a b && f_PS_isPlace c && f_PS_isPlace d) := by
  have e : (d ≤ 1048575) ↔ ¬ 1048575 < d := Int32.not_lt.symm
  have e2 : (b ≤ 255) ↔ ¬ 255 < b := Int32.not_lt.symm
  rw [badA_C, place_ok, place_ok]
  unfold badX badA
  simp only [e, e2]
  by_cases c1 : a < 0
  · simp only [c1, if_true, Bool.not_true, Bool.false_and, Bool.not_false]
  · by_cases c2 : 7 < a
    · simp only [c1, c2, if_true, if_false, Bool.not_true, Bool.false_and, Bool.not_false]
    · by_cases c3 : b < 0
      · simp only [c1, c2, c3, if_true, if_false, Bool.not_true, Bool.false_and, Bool.not_false]
      · by_cases c4 : 255 < b
        · simp only [c1, c2, c3, c4, if_true, if_false, Bool.not_true, Bool.false_and, Bool.not_false, not_true_eq_false]
        · by_cases c5 : c < 0
          · simp [c1, c2, c3, c4, c5]
          · by_cases c6 : 1048575 < c
            · simp [c1, c2, c3, c4, c5, c6]
            · by_cases c7 : d < 0
              · simp [c1, c2, c3, c4, c5, c6, c7]
              · by_cases c8 : 1048575 < d <;> simp [c1, c2, c3, c4, c5, c6, c7, c8]
/-! before and behind -/
theorem oth_RM {a : Ab} {τ : St} (h : RM a τ) {k : Nat} (o : Nat) (v : Int32) (hk : 9 ≤ k ∧ k ≤ 30) : RM a (sI τ k o v) := sI_RM (b := a) h rfl rfl rfl hk.2 (by rw [eq_gI (by omega)]; exact h.top) (by rw [eq_gI (by omega)]; exact h.w) (by rw [eq_gI (by omega)]; exact h.told) (by rw [eq_gI (by omega)]; exact h.c) (by rw [eq_gI (by omega)]; exact h.kc) (by rw [eq_gI (by omega)]; exact h.kp) (by rw [eq_gI (by omega)]; exact h.ko) (by rw [eq_gI (by omega)]; exact h.now)
theorem now_RM {a : Ab} {τ : St} (h : RM a τ) {n : Nat} {v : Int32} (hv : v = nI n) : RM (Ab.mk17 a.m a.r a.e a.top a.w a.told a.c0 a.c1 a.c2 a.c3 a.kc a.kp a.ko a.lc a.lp a.lo n) (sI τ 8 30 v) := sI_RM h rfl rfl rfl (by decide) (by rw [eq_gI (by decide)]; exact h.top) (by rw [eq_gI (by decide)]; exact h.w) (by rw [eq_gI (by decide)]; exact h.told) (by rw [eq_gI (by decide)]; exact h.c) (by rw [eq_gI (by decide)]; exact h.kc) (by rw [eq_gI (by decide)]; exact h.kp) (by rw [eq_gI (by decide)]; exact h.ko) (by rw [self_gI]; exact hv)
theorem now_RC {a : Ab} {σ : St} (h : RC a σ) {n : Nat} {v : Int32} (hv : v = nI n) : RC (Ab.mk17 a.m a.r a.e a.top a.w a.told a.c0 a.c1 a.c2 a.c3 a.kc a.kp a.ko a.lc a.lp a.lo n) (sI σ 7 3 v) := sI_RC h rfl rfl rfl (by decide) (by rw [eq_gI (by decide)]; exact h.top) (by rw [eq_gI (by decide)]; exact h.w) (by rw [eq_gI (by decide)]; exact h.told) (by rw [eq_gI (by decide)]; exact h.c) (by rw [eq_gI (by decide)]; exact h.kc) (by rw [eq_gI (by decide)]; exact h.kp) (by rw [eq_gI (by decide)]; exact h.ko) (by rw [self_gI]; exact hv)
theorem z9_RM {a : Ab} {τ : St} (h : RM a τ) (v : Bool) : RM a (sZ τ 9 30 v) := RM_mk h.m h.r (fun i hi => by rw [gZ_sZ, if_neg (by decide)]; exact h.e i hi) h.top h.w h.told h.c h.kc h.kp h.ko h.now h.byt
theorem prep_M {a : Ab} {s : St} {o k : Nat} (h : RM a s) (hk : k < 256) : RM (Ab.mk17 a.m a.r a.e a.top a.w a.told a.c0 a.c1 a.c2 a.c3 a.kc a.kp a.ko a.lc a.lp a.lo 0) (m_prep s (nI o) (nI k)) ∧ gZ (m_prep s (nI o) (nI k)) 9 30 = false ∧ gI (m_prep s (nI o) (nI k)) 10 30 = nI o ∧ gI (m_prep s (nI o) (nI k)) 11 30 = nI (k / 8 % 8) ∧ gI (m_prep s (nI o) (nI k)) 12 30 = nI (k % 8) := by
  obtain ⟨e1, e2, e3, e4, e5, e6, e7⟩ := code_C hk
  unfold m_prep
  rw [e5, e6]
  refine ⟨z9_RM (now_RM (oth_RM (oth_RM (oth_RM h 30 _ (by decide)) 30 _ (by decide)) 30 _ (by decide)) rfl) false, ?_, ?_, ?_, ?_⟩
  · rw [gZ_sZ, if_pos rfl, if_pos rfl]
  · rw [gI_sZ, eq_gI (by decide), eq_gI (by decide), eq_gI (by decide), self_gI]
  · rw [gI_sZ, eq_gI (by decide), eq_gI (by decide), self_gI]
  · rw [gI_sZ, eq_gI (by decide), self_gI]
theorem ptr_RM {a : Ab} {s : St} {x y z : Nat} {v1 v2 v3 : Int32} (h : RM a s) (h1 : v1 = nI x) (h2 : v2 = nI y) (h3 : v3 = nI z) : RM (Ab.mk17 a.m a.r a.e a.top a.w a.told a.c0 a.c1 a.c2 a.c3 a.kc a.kp a.ko x y z a.now) (sI (sI (sI s 5 30 v1) 6 30 v2) 7 30 v3) := by
  have g1 : RM (Ab.mk17 a.m a.r a.e a.top a.w a.told a.c0 a.c1 a.c2 a.c3 a.kc a.kp a.ko x a.lp a.lo a.now) (sI s 5 30 v1) := sI_RM h rfl rfl rfl (by decide) (by rw [eq_gI (by decide)]; exact h.top) (by rw [eq_gI (by decide)]; exact h.w) (by rw [eq_gI (by decide)]; exact h.told) (by rw [eq_gI (by decide)]; exact h.c) (by rw [self_gI]; exact h1) (by rw [eq_gI (by decide)]; exact h.kp) (by rw [eq_gI (by decide)]; exact h.ko) (by rw [eq_gI (by decide)]; exact h.now)
  have g2 : RM (Ab.mk17 a.m a.r a.e a.top a.w a.told a.c0 a.c1 a.c2 a.c3 a.kc a.kp a.ko x y a.lo a.now) (sI (sI s 5 30 v1) 6 30 v2) := sI_RM g1 rfl rfl rfl (by decide) (by rw [eq_gI (by decide)]; exact g1.top) (by rw [eq_gI (by decide)]; exact g1.w) (by rw [eq_gI (by decide)]; exact g1.told) (by rw [eq_gI (by decide)]; exact g1.c) (by rw [eq_gI (by decide)]; exact g1.kc) (by rw [self_gI]; exact h2) (by rw [eq_gI (by decide)]; exact g1.ko) (by rw [eq_gI (by decide)]; exact g1.now)
  exact sI_RM g2 rfl rfl rfl (by decide) (by rw [eq_gI (by decide)]; exact g2.top) (by rw [eq_gI (by decide)]; exact g2.w) (by rw [eq_gI (by decide)]; exact g2.told) (by rw [eq_gI (by decide)]; exact g2.c) (by rw [eq_gI (by decide)]; exact g2.kc) (by rw [eq_gI (by decide)]; exact g2.kp) (by rw [self_gI]; exact h3) (by rw [eq_gI (by decide)]; exact g2.now)
theorem ptr_RC {a : Ab} {s : St} {x y z : Nat} {v1 v2 v3 : Int32} (h : RC a s) (h1 : v1 = nI x) (h2 : v2 = nI y) (h3 : v3 = nI z) : RC (Ab.mk17 a.m a.r a.e a.top a.w a.told a.c0 a.c1 a.c2 a.c3 x y z a.lc a.lp a.lo a.now) (sI (sI (sI s 3 0 v1) 4 0 v2) 5 0 v3) := by
  have g1 : RC (Ab.mk17 a.m a.r a.e a.top a.w a.told a.c0 a.c1 a.c2 a.c3 x a.kp a.ko a.lc a.lp a.lo a.now) (sI s 3 0 v1) := sI_RC h rfl rfl rfl (by decide) (by rw [eq_gI (by decide)]; exact h.top) (by rw [eq_gI (by decide)]; exact h.w) (by rw [eq_gI (by decide)]; exact h.told) (by rw [eq_gI (by decide)]; exact h.c) (by rw [self_gI]; exact h1) (by rw [eq_gI (by decide)]; exact h.kp) (by rw [eq_gI (by decide)]; exact h.ko) (by rw [eq_gI (by decide)]; exact h.now)
  have g2 : RC (Ab.mk17 a.m a.r a.e a.top a.w a.told a.c0 a.c1 a.c2 a.c3 x y a.ko a.lc a.lp a.lo a.now) (sI (sI s 3 0 v1) 4 0 v2) := sI_RC g1 rfl rfl rfl (by decide) (by rw [eq_gI (by decide)]; exact g1.top) (by rw [eq_gI (by decide)]; exact g1.w) (by rw [eq_gI (by decide)]; exact g1.told) (by rw [eq_gI (by decide)]; exact g1.c) (by rw [eq_gI (by decide)]; exact g1.kc) (by rw [self_gI]; exact h2) (by rw [eq_gI (by decide)]; exact g1.ko) (by rw [eq_gI (by decide)]; exact g1.now)
  exact sI_RC g2 rfl rfl rfl (by decide) (by rw [eq_gI (by decide)]; exact g2.top) (by rw [eq_gI (by decide)]; exact g2.w) (by rw [eq_gI (by decide)]; exact g2.told) (by rw [eq_gI (by decide)]; exact g2.c) (by rw [eq_gI (by decide)]; exact g2.kc) (by rw [eq_gI (by decide)]; exact g2.kp) (by rw [self_gI]; exact h3) (by rw [eq_gI (by decide)]; exact g2.now)
def endA (b : Ab) : Ab := Ab.mk17 b.m b.r b.e b.top b.w (b.told ||| b.now) b.c0 b.c1 b.c2 b.c3 b.kc b.kp b.ko b.lc b.lp b.lo b.now
theorem end_C {K : K6} {b : Ab} {s : St} (h : RC b s) (hb : AOK K b) : RC (endA b) (sI s 1 0 (gI s 1 0 ||| gI s 7 3)) := by
  have t := hb.told
  have n := hb.now
  exact told_RC h (by rw [h.told, h.now, nI_or _ _ (by omega) (by omega)])
theorem end_M {K : K6} {b : Ab} {s : St} (h : RM b s) (hb : AOK K b) : RM (endA b) (m_end s) := by
  have t := hb.told
  have n := hb.now
  unfold m_end
  exact thr_RM (told_RM h (by rw [h.told, h.now, nI_or _ _ (by omega) (by omega)])) 0
theorem AOK_end {K : K6} {b : Ab} (hb : AOK K b) : AOK K (endA b) := AOK_mk hb.m hb.r hb.top hb.w (or_lt64 hb.told hb.now) hb.kc hb.kp hb.ko hb.lc hb.lp hb.lo hb.now hb.kk
/-- an operation that keeps where it stood -/
theorem fin_ptr {K : K6} {σ1 τ1 : St} {x y z kc kp ko : Nat} {v : Int32} (h : Jx K σ1 τ1) (hK : K = (kc, kp, ko, x, y, z)) (hv : v = nI x) (hx : x < 2048) (hy : y < 1048576) (hz : z < 1048576) : Rest (sI (sI (sI (sI σ1 1 0 (gI σ1 1 0 ||| gI σ1 7 3)) 3 0 v) 4 0 (nI y)) 5 0 (nI z)) (m_end τ1) := by
  obtain ⟨b, b1, b2, b3⟩ := h
  have k6 := b1.kk
  rw [hK] at k6
  have k4 : b.lc = x := congrArg (fun w : K6 => w.2.2.2.1) k6
  have k5 : b.lp = y := congrArg (fun w : K6 => w.2.2.2.2.1) k6
  have k7 : b.lo = z := congrArg (fun w : K6 => w.2.2.2.2.2) k6
  have c := ptr_RC (end_C b2 b1) hv (rfl : nI y = nI y) (rfl : nI z = nI z)
  have m := end_M b3 b1
  have o := AOK_end b1
  refine ⟨_, ?_, c, ?_, k4, k5, k7⟩
  · exact AOK_mk o.m o.r o.top o.w o.told hx hy hz o.lc o.lp o.lo o.now rfl
  · exact RM_mk m.m m.r m.e m.top m.w m.told m.c m.kc m.kp m.ko m.now m.byt
theorem fin_rest {σ1 τ1 : St} (h : Rest σ1 τ1) : Rest (sI σ1 1 0 (gI σ1 1 0 ||| gI σ1 7 3)) (m_end τ1) := by
  obtain ⟨b, b1, b2, b3, b4⟩ := h
  exact ⟨endA b, AOK_end b1, end_C b2 b1, end_M b3 b1, b4⟩
