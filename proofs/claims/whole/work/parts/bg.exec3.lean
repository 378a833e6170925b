/-! execute, both sides -/
theorem kind_R : ∀ o, o < 8 → ∀ r, r < 8 → ∀ i, i < 8 → (kindR (nI o) (nI r) (nI i) = 0 ∨ ¬ kindR (nI o) (nI r) (nI i) ≤ 0) := by
  intro o ho
  rcases (show o = 0 ∨ o = 1 ∨ o = 2 ∨ o = 3 ∨ o = 4 ∨ o = 5 ∨ o = 6 ∨ o = 7 by omega) with rfl | rfl | rfl | rfl | rfl | rfl | rfl | rfl <;> decide
theorem kind_M : ∀ o, o < 8 → ∀ r, r < 8 → (kindM (nI o) (nI r) = 0 ∨ ¬ kindM (nI o) (nI r) ≤ 0) := by decide
theorem kind_02 {o c : Nat} (ho : o < 8) (hc : c < 256) : f_M_kindOf (nI o) (nI c) = 0 ∨ ¬ f_M_kindOf (nI o) (nI c) ≤ 0 := by
  obtain ⟨e1, e2, e3, e4, e5, e6, e7⟩ := code_C hc
  rw [kind_eq, e4, e5, e6]
  simp only [e7]
  by_cases q : 192 ≤ c
  · rw [if_pos q]
    exact kind_R o ho _ (by omega) _ (by omega)
  · rw [if_neg q]
    exact kind_M o ho _ (by omega)
def kpC (o r : Int32) : Bool := if o = 1 then (if 4 ≤ r then false else true) else if o = 5 then (if 4 ≤ r then false else true) else true
def kpM (o r : Int32) : Bool := if o = 1 then (if 3 < r then false else (if o = 5 then (if r = 4 then false else if r = 6 then false else if r = 7 then false else true) else true)) else (if o = 5 then (if r = 4 then false else if r = 6 then false else if r = 7 then false else true) else true)
theorem kp_tbl : ∀ o, o < 8 → ∀ r, r < 8 → tb0.getD (jat (nI o * 8 + nI r)) 0 = 0 ∨ kpC (nI o) (nI r) = kpM (nI o) (nI r) := by decide
theorem kp_even : ∀ o, o < 8 → ∀ r, r < 8 → o % 2 = 1 ∨ kpC (nI o) (nI r) = true := by decide
theorem kp_load : ∀ x ∈ loadL, kpC (nI x.1) (nI x.2.1) = true := by decide
theorem kp_store : ∀ x ∈ storeL, kpC (nI x.1) (nI x.2.1) = true := by decide
theorem kp_word : ∀ x ∈ wordL, kpC (nI x.1) (nI x.2) = false := by decide
theorem keeps_C {o k : Nat} (hk : k < 256) : f_PS_keepsPointers (nI o) (nI k) = (if 192 ≤ k then (if nI o = 3 then false else true) else kpC (nI o) (nI (k / 8 % 8))) := by
  obtain ⟨e1, e2, e3, e4, e5, e6, e7⟩ := code_C hk
  have e8 : (nI k < 192) ↔ ¬ 192 ≤ k := by
    rw [← e3]
    exact Int32.not_le.symm
  unfold f_PS_keepsPointers f_PS_keepsPointers_b28 kpC
  try dsimp only
  rw [e1]
  simp only [e8]
  by_cases q : 192 ≤ k
  · rw [if_neg (fun z => z q), if_pos q]
  · rw [if_pos q, if_neg q]
theorem keeps_M {s : St} {o k : Nat} (hk : k < 256) (g10 : gI s 10 30 = nI o) (g11 : gI s 11 30 = nI (k / 8 % 8)) : m_keeps s (nI k) = (if 192 ≤ k then (if nI o = 3 then false else true) else kpM (nI o) (nI (k / 8 % 8))) := by
  obtain ⟨e1, e2, e3, e4, e5, e6, e7⟩ := code_C hk
  have e8 : (nI k < 192) ↔ ¬ 192 ≤ k := by
    rw [← e3]
    exact Int32.not_le.symm
  unfold m_keeps f_M_execute_b164 kpM
  rw [g10, g11]
  simp only [e8]
  by_cases q : 192 ≤ k
  · rw [if_neg (show ¬ ¬ 192 ≤ k from fun z => z q), if_pos (rfl : true = true), if_pos q]
  · rw [if_pos q, if_neg Bool.false_ne_true, if_neg q]
theorem runM_eq {s : St} {k : Nat} (hk : k < 256) : m_run s (nI k) = if 192 ≤ k then f_M_inRegisters s else f_M_inMemory s := by
  obtain ⟨e1, e2, e3, e4, e5, e6, e7⟩ := code_C hk
  have e8 : (nI k < 192) ↔ ¬ 192 ≤ k := by
    rw [← e3]
    exact Int32.not_le.symm
  unfold m_run
  simp only [e8]
  by_cases q : 192 ≤ k
  · rw [if_neg (show ¬ ¬ 192 ≤ k from fun z => z q), if_pos (rfl : true = true), if_pos q]
  · rw [if_pos q, if_neg Bool.false_ne_true, if_neg q]
def c_run (s1 : St) (a b : Int32) : St := if b < 192 then f_PS_doWithMemory s1 a (jshr b 3 &&& 7) else if a = 1 then f_PS_doOwn s1 (jshr b 3 &&& 7) (b &&& 7) else f_PS_doWithRegisters s1 a (jshr b 3 &&& 7) (b &&& 7)
theorem runC_eq {s : St} {o k : Nat} (hk : k < 256) : c_run s (nI o) (nI k) = if 192 ≤ k then (if nI o = 1 then f_PS_doOwn s (nI (k / 8 % 8)) (nI (k % 8)) else f_PS_doWithRegisters s (nI o) (nI (k / 8 % 8)) (nI (k % 8))) else f_PS_doWithMemory s (nI o) (nI (k / 8 % 8)) := by
  obtain ⟨e1, e2, e3, e4, e5, e6, e7⟩ := code_C hk
  have e8 : (nI k < 192) ↔ ¬ 192 ≤ k := by
    rw [← e3]
    exact Int32.not_le.symm
  unfold c_run
  rw [e1, e2]
  simp only [e8]
  by_cases q : 192 ≤ k
  · rw [if_neg (fun z => z q), if_pos q]
  · rw [if_pos q, if_neg q]
theorem cexec_eq (σ : St) (a b c d : Int32) : c_exec σ a b c d = (if f_PS_sortOf σ a b = 0 then (if f_PS_keepsPointers a b = true then (0, sI (sI (sI (sI (c_run (sI σ 7 3 0) a b) 1 0 (gI (c_run (sI σ 7 3 0) a b) 1 0 ||| gI (c_run (sI σ 7 3 0) a b) 7 3)) 3 0 (a * 256 + b)) 4 0 c) 5 0 d) else (0, sI (c_run (sI σ 7 3 0) a b) 1 0 (gI (c_run (sI σ 7 3 0) a b) 1 0 ||| gI (c_run (sI σ 7 3 0) a b) 7 3))) else (f_PS_sortOf σ a b, σ)) := rfl
/-- a code that keeps where it stood -/
theorem run_ptr {b : Ab} {σ s6 : St} {o k p q : Nat} (b1 : AOK (kp6 b) b) (h0 : b.now = 0) (b2 : RC b σ) (b3 : RM b s6) (z9 : gZ s6 9 30 = false) (g10 : gI s6 10 30 = nI o) (g11 : gI s6 11 30 = nI (k / 8 % 8)) (g12 : gI s6 12 30 = nI (k % 8)) (ho : o < 8) (hk : k < 256) (hp : p < 1048576) (hq : q < 1048576) (hs : f_PS_sortOf σ (nI o) (nI k) = 0) (hkp : f_PS_keepsPointers (nI o) (nI k) = true) : Rest (sI (sI (sI (sI (c_run σ (nI o) (nI k)) 1 0 (gI (c_run σ (nI o) (nI k)) 1 0 ||| gI (c_run σ (nI o) (nI k)) 7 3)) 3 0 (nI o * 256 + nI k)) 4 0 (nI p)) 5 0 (nI q)) (m_end (m_run (m_put s6 true (nI k) (nI p) (nI q)) (nI k))) := by
  have v1 : (256 : Int32) * nI o + nI k = nI (256 * o + k) := by
    have : (256 : Int32) * nI o = nI (256 * o) := pk_mul 256 o
    rw [this, nI_add]
  have v2 : nI o * 256 + nI k = nI (256 * o + k) := by
    have : nI o * 256 = nI (o * 256) := pk_mul o 256
    rw [this, nI_add, Nat.mul_comm]
  have mp : m_put s6 true (nI k) (nI p) (nI q) = sI (sI (sI s6 5 30 (nI (256 * o + k))) 6 30 (nI p)) 7 30 (nI q) := by
    unfold m_put
    rw [if_pos (rfl : true = true), g10, v1]
  rw [mp, v2]
  have m7 := ptr_RM b3 (rfl : nI (256 * o + k) = _) (rfl : nI p = _) (rfl : nI q = _)
  have y9 : gZ (sI (sI (sI s6 5 30 (nI (256 * o + k))) 6 30 (nI p)) 7 30 (nI q)) 9 30 = false := z9
  have y10 : gI (sI (sI (sI s6 5 30 (nI (256 * o + k))) 6 30 (nI p)) 7 30 (nI q)) 10 30 = nI o := by
    rw [eq_gI (by decide), eq_gI (by decide), eq_gI (by decide)]
    exact g10
  have y11 : gI (sI (sI (sI s6 5 30 (nI (256 * o + k))) 6 30 (nI p)) 7 30 (nI q)) 11 30 = nI (k / 8 % 8) := by
    rw [eq_gI (by decide), eq_gI (by decide), eq_gI (by decide)]
    exact g11
  have y12 : gI (sI (sI (sI s6 5 30 (nI (256 * o + k))) 6 30 (nI p)) 7 30 (nI q)) 12 30 = nI (k % 8) := by
    rw [eq_gI (by decide), eq_gI (by decide), eq_gI (by decide)]
    exact g12
  generalize sI (sI (sI s6 5 30 (nI (256 * o + k))) 6 30 (nI p)) 7 30 (nI q) = s7 at *
  obtain ⟨a1, ha1⟩ : ∃ a1, a1 = Ab.mk17 b.m b.r b.e b.top b.w b.told b.c0 b.c1 b.c2 b.c3 b.kc b.kp b.ko (256 * o + k) p q b.now := ⟨_, rfl⟩
  rw [← ha1] at m7
  have hK : kp6 a1 = (b.kc, b.kp, b.ko, 256 * o + k, p, q) := by rw [ha1]; rfl
  have o1 : AOK (b.kc, b.kp, b.ko, 256 * o + k, p, q) a1 := by
    rw [ha1]
    exact AOK_mk b1.m b1.r b1.top b1.w b1.told b1.kc b1.kp b1.ko (show 256 * o + k < 2048 by omega) hp hq b1.now rfl
  have c1 : RC a1 σ := by
    rw [ha1]
    exact RC_mk b2.m b2.r b2.e b2.top b2.w b2.told b2.c b2.kc b2.kp b2.ko b2.now
  have n0 : a1.now = 0 := by rw [ha1]; exact h0
  have ov : OV a1 s7 := by
    unfold OV
    rw [y9, n0, ends0]
  have r8 : k / 8 % 8 < 8 := by omega
  have i8 : k % 8 < 8 := by omega
  refine fin_ptr (kc := b.kc) (kp := b.kp) (ko := b.ko) (x := 256 * o + k) ?_ rfl rfl (by omega) hp hq
  rw [keeps_C hk] at hkp
  rw [sort_eq] at hs
  obtain ⟨e1, e2, e3, e4, e5, e6, e7⟩ := code_C hk
  rw [e1, e2] at hs
  simp only [e3] at hs
  rw [runC_eq hk, runM_eq hk]
  by_cases z : 192 ≤ k
  · rw [if_pos z] at hkp hs
    rw [if_pos z, if_pos z]
    generalize k / 8 % 8 = r at *
    generalize k % 8 = i at *
    rcases (show o = 0 ∨ o = 1 ∨ o = 2 ∨ o = 3 ∨ o = 4 ∨ o = 5 ∨ o = 6 ∨ o = 7 by omega) with rfl | rfl | rfl | rfl | rfl | rfl | rfl | rfl
    · rw [if_neg (show ¬ nI 0 = 1 by decide)]
      exact reg0_J o1 c1 m7 ov r8 i8 y10 y11 y12
    · rw [if_pos (show nI 1 = 1 by decide)]
      exact reg1_J o1 c1 m7 ov n0 (reg_cases1 r8 i8 hs) i8 y10 y11 y12
    · exact absurd hs (reg_cases2 r r8 i i8).1
    · rw [if_pos (show nI 3 = 3 by decide)] at hkp
      cases hkp
    · rw [if_neg (show ¬ nI 4 = 1 by decide)]
      rcases reg_cases4 r r8 i i8 with h | h
      · exact absurd hs h
      · exact reg4_J o1 c1 m7 ov h i8 y10 y11 y12
    · rw [if_neg (show ¬ nI 5 = 1 by decide)]
      rcases reg_cases5 r r8 i i8 with h | h
      · exact absurd hs h
      · exact reg5_J o1 c1 m7 ov h i8 y10 y11 y12
    · rw [if_neg (show ¬ nI 6 = 1 by decide)]
      rcases reg_cases6 r r8 i i8 with h | h
      · exact absurd hs h
      · exact reg6_J o1 c1 m7 ov h i8 y10 y11 y12
    · exact absurd hs (reg_cases2 r r8 i i8).2
  · rw [if_neg z] at hkp hs
    rw [if_neg z, if_neg z]
    generalize k / 8 % 8 = r at *
    have t0 : tb0.getD (jat (nI o * 8 + nI r)) 0 ≠ 0 := fun t => by
      unfold sortN at hs
      rw [if_pos t] at hs
      cases hs
    rcases mem_cases ho r8 with h | h | ⟨x, h1, h2, h3⟩ | ⟨x, h1, h2, h3⟩ | h
    · exact absurd h t0
    · exact memE_J o1 c1 m7 ov ho h r8 y10 y11
    · subst h2
      subst h3
      exact memL_J h1 o1 c1 m7 ov n0 y10 y11
    · subst h2
      subst h3
      exact memS_J h1 o1 c1 m7 ov n0 y10 y11
    · have := kp_word (o, r) h
      have hkp' : kpC (nI o) (nI r) = true := hkp
      rw [this] at hkp'
      cases hkp'
theorem run_rest {b : Ab} {σ s6 : St} {o k : Nat} (b1 : AOK (kp6 b) b) (b2 : RC b σ) (b3 : RM b s6) (b4 : b.lc = b.kc ∧ b.lp = b.kp ∧ b.lo = b.ko) (g10 : gI s6 10 30 = nI o) (g11 : gI s6 11 30 = nI (k / 8 % 8)) (g12 : gI s6 12 30 = nI (k % 8)) (ho : o < 8) (hk : k < 256) (hs : f_PS_sortOf σ (nI o) (nI k) = 0) (hkp : f_PS_keepsPointers (nI o) (nI k) = false) : Rest (sI (c_run σ (nI o) (nI k)) 1 0 (gI (c_run σ (nI o) (nI k)) 1 0 ||| gI (c_run σ (nI o) (nI k)) 7 3)) (m_end (m_run s6 (nI k))) := by
  have r8 : k / 8 % 8 < 8 := by omega
  have i8 : k % 8 < 8 := by omega
  refine fin_rest ?_
  rw [keeps_C hk] at hkp
  rw [sort_eq] at hs
  obtain ⟨e1, e2, e3, e4, e5, e6, e7⟩ := code_C hk
  rw [e1, e2] at hs
  simp only [e3] at hs
  rw [runC_eq hk, runM_eq hk]
  by_cases z : 192 ≤ k
  · rw [if_pos z] at hkp hs
    rw [if_pos z, if_pos z]
    generalize k / 8 % 8 = r at *
    generalize k % 8 = i at *
    have o3 : nI o = 3 := by
      by_cases c : nI o = 3
      · exact c
      · rw [if_neg c] at hkp
        cases hkp
    have o3' : o = 3 := (nI_eq (b := 3) (by omega) (by decide)).mp o3
    subst o3'
    rw [if_neg (show ¬ nI 3 = 1 by decide)]
    rcases reg_cases3 r r8 i i8 with h | ⟨h1, h2⟩
    · exact absurd hs h
    · subst h1
      exact reg3_J b1 b2 b3 b4 h2 g10 g12
  · rw [if_neg z] at hkp hs
    rw [if_neg z, if_neg z]
    generalize k / 8 % 8 = r at *
    have t0 : tb0.getD (jat (nI o * 8 + nI r)) 0 ≠ 0 := fun t => by
      unfold sortN at hs
      rw [if_pos t] at hs
      cases hs
    rcases mem_cases ho r8 with h | h | ⟨x, h1, h2, h3⟩ | ⟨x, h1, h2, h3⟩ | h
    · exact absurd h t0
    · rcases kp_even o ho r r8 with q | q
      · omega
      · rw [q] at hkp
        cases hkp
    · subst h2
      subst h3
      rw [kp_load x h1] at hkp
      cases hkp
    · subst h2
      subst h3
      rw [kp_store x h1] at hkp
      cases hkp
    · exact memW_J h b1 b2 b3 b4 g10 g11
theorem exec_J {σ τ : St} (h : Rest σ τ) (a b c d : Int32) : gI (f_M_execute τ a b c d).2 0 30 = bI (badX a b c d) ∧ (badX a b c d = true → Rest σ (f_M_execute τ a b c d).2) ∧ (badX a b c d = false → Rest (c_exec σ a b c d).2 (f_M_execute τ a b c d).2 ∧ (c_exec σ a b c d).1 = (f_M_execute τ a b c d).1) := by
  have h' := thr_Rest h (bI (badX a b c d))
  have g := self_gI τ 0 30 (bI (badX a b c d))
  rw [exec_eq]
  cases hb : badX a b c d with
  | true =>
    rw [hb] at h' g
    have g0 : ¬ gI (sI τ 0 30 (bI true)) 0 30 ≤ 0 := by
      rw [g]
      decide
    rw [if_neg g0]
    exact ⟨g, fun _ => h', fun q => (by cases q)⟩
  | false =>
    rw [hb] at h' g
    have g0 : gI (sI τ 0 30 (bI false)) 0 30 ≤ 0 := by
      rw [g]
      decide
    rw [if_pos g0, cexec_eq]
    obtain ⟨o, k, p, q, rfl, ho, rfl, hk, rfl, hp, rfl, hq⟩ := badX_no hb
    rw [sort_kind ho hk]
    rcases kind_02 ho hk with kd | kd
    · rw [if_pos kd, if_pos (show f_M_kindOf (nI o) (nI k) ≤ 0 by rw [kd]; decide)]
      refine ⟨?_, fun q => (by cases q), fun _ => ?_⟩
      · show gI (sI _ 0 30 0) 0 30 = bI false
        rw [self_gI]
        rfl
      · obtain ⟨e, e1, e2, e3, e4⟩ := h'
        obtain ⟨m6, z9, y10, y11, y12⟩ := prep_M (o := o) (k := k) e3 hk
        have c6 := now_RC (n := 0) (v := 0) e2 rfl
        generalize m_prep (sI τ 0 30 (bI false)) (nI o) (nI k) = s6 at *
        have so : f_PS_sortOf (sI σ 7 3 0) (nI o) (nI k) = 0 := by
          rw [sort_kind ho hk]
          exact kd
        obtain ⟨a0, ha0⟩ : ∃ a0, a0 = Ab.mk17 e.m e.r e.e e.top e.w e.told e.c0 e.c1 e.c2 e.c3 e.kc e.kp e.ko e.lc e.lp e.lo 0 := ⟨_, rfl⟩
        rw [← ha0] at m6 c6
        have o6 : AOK (kp6 a0) a0 := by
          rw [ha0]
          exact AOK_mk e1.m e1.r e1.top e1.w e1.told e1.kc e1.kp e1.ko e1.lc e1.lp e1.lo (show 0 < 64 by decide) rfl
        have l6 : a0.lc = a0.kc ∧ a0.lp = a0.kp ∧ a0.lo = a0.ko := by
          rw [ha0]
          exact e4
        have n0 : a0.now = 0 := by rw [ha0]
        have t0 : 192 ≤ k ∨ tb0.getD (jat (nI o * 8 + nI (k / 8 % 8))) 0 ≠ 0 := by
          by_cases z : 192 ≤ k
          · exact Or.inl z
          · refine Or.inr (fun t => ?_)
            rw [sort_eq] at so
            obtain ⟨x1, x2, x3, x4, x5, x6, x7⟩ := code_C hk
            rw [x1] at so
            simp only [x3] at so
            rw [if_neg z] at so
            unfold sortN at so
            rw [if_pos t] at so
            cases so
        have kk : m_keeps s6 (nI k) = f_PS_keepsPointers (nI o) (nI k) := by
          rw [keeps_M hk y10 y11, keeps_C hk]
          by_cases z : 192 ≤ k
          · rw [if_pos z, if_pos z]
          · rw [if_neg z, if_neg z]
            rcases t0 with t0 | t0
            · exact absurd t0 z
            · rcases kp_tbl o ho (k / 8 % 8) (by omega) with u | u
              · exact absurd u t0
              · exact u.symm
        rw [kk]
        cases hkp : f_PS_keepsPointers (nI o) (nI k) with
        | true =>
          rw [if_pos (rfl : true = true)]
          exact ⟨run_ptr o6 n0 c6 m6 z9 y10 y11 y12 ho hk hp hq so hkp, rfl⟩
        | false =>
          rw [if_neg Bool.false_ne_true]
          have mp : m_put s6 false (nI k) (nI p) (nI q) = s6 := by
            unfold m_put
            rw [if_neg Bool.false_ne_true]
          rw [mp]
          exact ⟨run_rest o6 c6 m6 l6 y10 y11 y12 ho hk so hkp, rfl⟩
    · have kd0 : ¬ f_M_kindOf (nI o) (nI k) = 0 := fun q => kd (by rw [q]; decide)
      rw [if_neg kd0, if_neg kd]
      exact ⟨g, fun q => (by cases q), fun _ => ⟨h', rfl⟩⟩
