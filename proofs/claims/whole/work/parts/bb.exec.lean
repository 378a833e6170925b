/-! which codes there are; what each does -/
def fmE (op : Nat) : Nat := if op = 0 then 3 else if op = 2 then 1 else if op = 4 then 4 else 0
theorem tbl_even0 : ∀ op, op < 8 → ∀ r, r < 8 → op % 2 = 1 ∨ (tb2.getD (jat (nI op * 8 + nI r)) 0 = nI (fmE op) ∧ f_M_operandOf (nI op) (nI r) = nI (fmE op) ∧ nI op &&& 1 = 0 ∧ jrem (nI op) 2 = 0 ∧ (0 : Int32) ≤ nI (fmE op) ∧ fmE op ≤ 6) := by decide
theorem tbl_even (op : Nat) (ho : op < 8) (r : Nat) (hr : r < 8) (ev : op % 2 = 0) : tb2.getD (jat (nI op * 8 + nI r)) 0 = nI (fmE op) ∧ f_M_operandOf (nI op) (nI r) = nI (fmE op) ∧ nI op &&& 1 = 0 ∧ jrem (nI op) 2 = 0 ∧ (0 : Int32) ≤ nI (fmE op) ∧ fmE op ≤ 6 := by
  rcases tbl_even0 op ho r hr with h | h
  · omega
  · exact h
def loadL : List (Nat × Nat × Nat) := [(1, 0, 3), (3, 0, 1), (5, 0, 4), (7, 0, 0), (3, 5, 6), (7, 4, 5), (7, 5, 2)]
def storeL : List (Nat × Nat × Nat) := [(1, 2, 3), (1, 3, 3), (3, 2, 1), (3, 3, 1), (3, 7, 6), (5, 2, 4), (5, 3, 4), (7, 2, 0), (7, 3, 0), (7, 6, 5), (7, 7, 2)]
def wordL : List (Nat × Nat) := [(1, 4), (1, 5), (1, 6), (1, 7), (5, 4), (5, 6), (5, 7)]
theorem tbl_load : ∀ x ∈ loadL, tb2.getD (jat (nI x.1 * 8 + nI x.2.1)) 0 = nI x.2.2 ∧ (0 : Int32) ≤ nI x.2.2 ∧ ¬ nI x.1 &&& 1 = 0 ∧ ¬ tb0.getD (jat (nI x.1 * 8 + nI x.2.1)) 0 ≤ 0 ∧ f_M_operandOf (nI x.1) (nI x.2.1) = nI x.2.2 ∧ f_M_isWritten (nI x.1) (nI x.2.1) = false ∧ ¬ jrem (nI x.1) 2 = 0 ∧ ¬ nI x.2.2 = 9 ∧ ¬ nI x.2.2 = 8 ∧ ¬ nI x.2.2 = 7 ∧ x.2.2 ≤ 6 := by decide
theorem tbl_store : ∀ x ∈ storeL, tb2.getD (jat (nI x.1 * 8 + nI x.2.1)) 0 = nI x.2.2 ∧ (0 : Int32) ≤ nI x.2.2 ∧ ¬ nI x.1 &&& 1 = 0 ∧ tb0.getD (jat (nI x.1 * 8 + nI x.2.1)) 0 ≤ 0 ∧ f_M_operandOf (nI x.1) (nI x.2.1) = nI x.2.2 ∧ f_M_isWritten (nI x.1) (nI x.2.1) = true ∧ ¬ jrem (nI x.1) 2 = 0 ∧ ¬ nI x.2.2 = 9 ∧ ¬ nI x.2.2 = 8 ∧ ¬ nI x.2.2 = 7 ∧ x.2.2 ≤ 6 ∧ x.2.1 < 8 := by decide
theorem mem_cases0 : ∀ op, op < 8 → ∀ r, r < 8 → tb0.getD (jat (nI op * 8 + nI r)) 0 = 0 ∨ op % 2 = 0 ∨ (loadL.any (fun x => decide (x.1 = op) && decide (x.2.1 = r))) = true ∨ (storeL.any (fun x => decide (x.1 = op) && decide (x.2.1 = r))) = true ∨ (op, r) ∈ wordL := by decide
theorem any_pair {L : List (Nat × Nat × Nat)} {op r : Nat} (h : (L.any (fun x => decide (x.1 = op) && decide (x.2.1 = r))) = true) : ∃ x, x ∈ L ∧ x.1 = op ∧ x.2.1 = r := by
  obtain ⟨x, h1, h2⟩ := List.any_eq_true.mp h
  rw [Bool.and_eq_true] at h2
  exact ⟨x, h1, of_decide_eq_true h2.1, of_decide_eq_true h2.2⟩
theorem mem_cases {op r : Nat} (ho : op < 8) (hr : r < 8) : tb0.getD (jat (nI op * 8 + nI r)) 0 = 0 ∨ op % 2 = 0 ∨ (∃ x, x ∈ loadL ∧ x.1 = op ∧ x.2.1 = r) ∨ (∃ x, x ∈ storeL ∧ x.1 = op ∧ x.2.1 = r) ∨ (op, r) ∈ wordL := by
  rcases mem_cases0 op ho r hr with h | h | h | h | h
  · exact Or.inl h
  · exact Or.inr (Or.inl h)
  · exact Or.inr (Or.inr (Or.inl (any_pair h)))
  · exact Or.inr (Or.inr (Or.inr (Or.inl (any_pair h))))
  · exact Or.inr (Or.inr (Or.inr (Or.inr h)))
theorem memE_J {K : K6} {a : Ab} {σ τ : St} {op r : Nat} (ha : AOK K a) (hc : RC a σ) (hm : RM a τ) (ov : OV a τ) (ho : op < 8) (ev : op % 2 = 0) (hr : r < 8) (g10 : gI τ 10 30 = nI op) (g11 : gI τ 11 30 = nI r) : Jx K (f_PS_doWithMemory σ (nI op) (nI r)) (f_M_inMemory τ) := by
  obtain ⟨t1, t2, t3, t4, t5, t6⟩ := tbl_even op ho r hr ev
  have j := evenMem_J ha hc hm ov t6 hr g11
  unfold f_PS_doWithMemory f_M_inMemory
  try dsimp only
  rw [t1, g10, g11, t2]
  try dsimp only
  rw [if_pos t5, if_pos t3, if_pos t4]
  exact j
theorem memL_J {K : K6} {a : Ab} {σ τ : St} {x : Nat × Nat × Nat} (hx : x ∈ loadL) (ha : AOK K a) (hc : RC a σ) (hm : RM a τ) (ov : OV a τ) (h0 : a.now = 0) (g10 : gI τ 10 30 = nI x.1) (g11 : gI τ 11 30 = nI x.2.1) : Jx K (f_PS_doWithMemory σ (nI x.1) (nI x.2.1)) (f_M_inMemory τ) := by
  obtain ⟨t1, t2, t3, t4, t5, t6, t7, t8, t9, t10, t11⟩ := tbl_load x hx
  have j := pushRead_J ha hc hm ov h0 t11
  unfold f_PS_doWithMemory f_M_inMemory
  try dsimp only
  rw [t1, g10, g11, t5, t6]
  try dsimp only
  rw [if_pos t2, if_neg t3, if_neg t4, if_neg t7, if_neg t8, if_neg t9, if_neg t10, if_neg Bool.false_ne_true]
  exact j
theorem memS_J {K : K6} {a : Ab} {σ τ : St} {x : Nat × Nat × Nat} (hx : x ∈ storeL) (ha : AOK K a) (hc : RC a σ) (hm : RM a τ) (ov : OV a τ) (h0 : a.now = 0) (g10 : gI τ 10 30 = nI x.1) (g11 : gI τ 11 30 = nI x.2.1) : Jx K (f_PS_doWithMemory σ (nI x.1) (nI x.2.1)) (f_M_inMemory τ) := by
  obtain ⟨t1, t2, t3, t4, t5, t6, t7, t8, t9, t10, t11, t12⟩ := tbl_store x hx
  have j := store_J ha hc hm ov h0 t11 t12 g11
  unfold f_PS_doWithMemory f_M_inMemory
  try dsimp only
  rw [t1, g10, g11, t5, t6]
  try dsimp only
  rw [if_pos t2, if_neg t3, if_pos t4, if_neg t7, if_neg t8, if_neg t9, if_neg t10, if_pos (rfl : true = true)]
  exact j
/-- at rest: what is kept is the same on both sides -/
def Rest (σ τ : St) : Prop := ∃ b, AOK (kp6 b) b ∧ RC b σ ∧ RM b τ ∧ b.lc = b.kc ∧ b.lp = b.kp ∧ b.lo = b.ko
theorem w_RC {a : Ab} {σ : St} (h : RC a σ) {n : Nat} {v : Int32} (hv : v = nI n) : RC (Ab.mk17 a.m a.r a.e a.top (n) a.told a.c0 a.c1 a.c2 a.c3 a.kc a.kp a.ko a.lc a.lp a.lo a.now) (sI σ 6 3 v) := sI_RC h rfl rfl rfl (by decide) (by rw [eq_gI (by decide)]; exact h.top) (by rw [self_gI]; exact hv) (by rw [eq_gI (by decide)]; exact h.told) (by rw [eq_gI (by decide)]; exact h.c) (by rw [eq_gI (by decide)]; exact h.kc) (by rw [eq_gI (by decide)]; exact h.kp) (by rw [eq_gI (by decide)]; exact h.ko) (by rw [eq_gI (by decide)]; exact h.now)
theorem w_RM {a : Ab} {τ : St} (h : RM a τ) {n : Nat} {v : Int32} (hv : v = nI n) : RM (Ab.mk17 a.m a.r a.e a.top (n) a.told a.c0 a.c1 a.c2 a.c3 a.kc a.kp a.ko a.lc a.lp a.lo a.now) (sI τ 2 30 v) := sI_RM h rfl rfl rfl (by decide) (by rw [eq_gI (by decide)]; exact h.top) (by rw [self_gI]; exact hv) (by rw [eq_gI (by decide)]; exact h.told) (by rw [eq_gI (by decide)]; exact h.c) (by rw [eq_gI (by decide)]; exact h.kc) (by rw [eq_gI (by decide)]; exact h.kp) (by rw [eq_gI (by decide)]; exact h.ko) (by rw [eq_gI (by decide)]; exact h.now)
theorem told_RC {a : Ab} {σ : St} (h : RC a σ) {n : Nat} {v : Int32} (hv : v = nI n) : RC (Ab.mk17 a.m a.r a.e a.top a.w (n) a.c0 a.c1 a.c2 a.c3 a.kc a.kp a.ko a.lc a.lp a.lo a.now) (sI σ 1 0 v) := sI_RC h rfl rfl rfl (by decide) (by rw [eq_gI (by decide)]; exact h.top) (by rw [eq_gI (by decide)]; exact h.w) (by rw [self_gI]; exact hv) (by rw [eq_gI (by decide)]; exact h.c) (by rw [eq_gI (by decide)]; exact h.kc) (by rw [eq_gI (by decide)]; exact h.kp) (by rw [eq_gI (by decide)]; exact h.ko) (by rw [eq_gI (by decide)]; exact h.now)
theorem told_RM {a : Ab} {τ : St} (h : RM a τ) {n : Nat} {v : Int32} (hv : v = nI n) : RM (Ab.mk17 a.m a.r a.e a.top a.w (n) a.c0 a.c1 a.c2 a.c3 a.kc a.kp a.ko a.lc a.lp a.lo a.now) (sI τ 3 30 v) := sI_RM h rfl rfl rfl (by decide) (by rw [eq_gI (by decide)]; exact h.top) (by rw [eq_gI (by decide)]; exact h.w) (by rw [self_gI]; exact hv) (by rw [eq_gI (by decide)]; exact h.c) (by rw [eq_gI (by decide)]; exact h.kc) (by rw [eq_gI (by decide)]; exact h.kp) (by rw [eq_gI (by decide)]; exact h.ko) (by rw [eq_gI (by decide)]; exact h.now)
theorem mem14 (op r : Nat) (h : (op, r) ∈ wordL) : (op = 1 ∧ r = 4) ∨ (op = 1 ∧ r = 5) ∨ (op = 1 ∧ r = 6) ∨ (op = 1 ∧ r = 7) ∨ (op = 5 ∧ r = 4) ∨ (op = 5 ∧ r = 6) ∨ (op = 5 ∧ r = 7) := by
  unfold wordL at h
  simp only [List.mem_cons, Prod.mk.injEq, List.not_mem_nil, or_false] at h
  exact h
theorem memW_J {a : Ab} {σ τ : St} {op r : Nat} (hx : (op, r) ∈ wordL) (ha : AOK (kp6 a) a) (hc : RC a σ) (hm : RM a τ) (hk : a.lc = a.kc ∧ a.lp = a.kp ∧ a.lo = a.ko) (g10 : gI τ 10 30 = nI op) (g11 : gI τ 11 30 = nI r) : Rest (f_PS_doWithMemory σ (nI op) (nI r)) (f_M_inMemory τ) := by
  have l0 := wdN_lt ha.m 0
  unfold f_PS_doWithMemory f_M_inMemory
  try dsimp only
  rw [g10, g11]
  try dsimp only
  rcases mem14 op r hx with ⟨rfl, rfl⟩ | ⟨rfl, rfl⟩ | ⟨rfl, rfl⟩ | ⟨rfl, rfl⟩ | ⟨rfl, rfl⟩ | ⟨rfl, rfl⟩ | ⟨rfl, rfl⟩
  · have t1 : ¬ (0 : Int32) ≤ tb2.getD (jat (nI 1 * 8 + nI 4)) 0 := by decide
    have t2 : f_M_operandOf (nI 1) (nI 4) = 8 := by decide
    have t3 : f_M_isWritten (nI 1) (nI 4) = false := by decide
    rw [if_neg t1, t2, t3, if_neg (show ¬ jrem (nI 1) 2 = 0 by decide), if_neg (show ¬ (8 : Int32) = 9 by decide), if_pos (rfl : (8 : Int32) = 8), if_neg Bool.false_ne_true]
    unfold f_PS_doWithWords
    try dsimp only
    rw [if_pos (show nI 4 = 4 by decide), if_pos (show nI 1 = 1 by decide), if_pos (rfl : true = true)]
    exact ⟨_, AOK_env ha, rEnv_C hc ha, rEnv_M hm ha, rfl, rfl, rfl⟩
  · have t1 : ¬ (0 : Int32) ≤ tb2.getD (jat (nI 1 * 8 + nI 5)) 0 := by decide
    have t2 : f_M_operandOf (nI 1) (nI 5) = 7 := by decide
    have t3 : f_M_isWritten (nI 1) (nI 5) = false := by decide
    rw [if_neg t1, t2, t3, if_neg (show ¬ jrem (nI 1) 2 = 0 by decide), if_neg (show ¬ (7 : Int32) = 9 by decide), if_neg (show ¬ (7 : Int32) = 8 by decide), if_pos (rfl : (7 : Int32) = 7), if_neg (show ¬ nI 1 = 5 by decide), if_neg Bool.false_ne_true]
    unfold f_PS_doWithWords
    try dsimp only
    rw [if_neg (show ¬ nI 5 = 4 by decide), if_pos (show nI 5 = 5 by decide)]
    have c := w_RC hc (word_C hc.m ha.m (k := 0) (kk := 0) rfl (by decide))
    have m := w_RM hm (word_M hm.m (k := 0) (kk := 0) rfl (by decide))
    exact ⟨(Ab.mk17 a.m a.r a.e a.top (wdN a.m 0) a.told a.c0 a.c1 a.c2 a.c3 a.kc a.kp a.ko a.lc a.lp a.lo a.now), (AOK_mk ha.m ha.r ha.top (l0) ha.told ha.kc ha.kp ha.ko ha.lc ha.lp ha.lo ha.now ha.kk), c, m, hk⟩
  · have t1 : ¬ (0 : Int32) ≤ tb2.getD (jat (nI 1 * 8 + nI 6)) 0 := by decide
    have t2 : f_M_operandOf (nI 1) (nI 6) = 8 := by decide
    have t3 : f_M_isWritten (nI 1) (nI 6) = true := by decide
    rw [if_neg t1, t2, t3, if_neg (show ¬ jrem (nI 1) 2 = 0 by decide), if_neg (show ¬ (8 : Int32) = 9 by decide), if_pos (rfl : (8 : Int32) = 8), if_pos (rfl : true = true)]
    unfold f_PS_doWithWords
    try dsimp only
    rw [if_neg (show ¬ nI 6 = 4 by decide), if_neg (show ¬ nI 6 = 5 by decide), if_pos (show nI 6 = 6 by decide), if_pos (show nI 1 = 1 by decide), if_pos (rfl : true = true)]
    exact ⟨_, by exact AOK_m ha (e7m_lt ha), wEnv_C hc ha, wEnv_M hm ha hk, hk⟩
  · have t1 : ¬ (0 : Int32) ≤ tb2.getD (jat (nI 1 * 8 + nI 7)) 0 := by decide
    have t2 : f_M_operandOf (nI 1) (nI 7) = 7 := by decide
    have t3 : f_M_isWritten (nI 1) (nI 7) = true := by decide
    rw [if_neg t1, t2, t3, if_neg (show ¬ jrem (nI 1) 2 = 0 by decide), if_neg (show ¬ (7 : Int32) = 9 by decide), if_neg (show ¬ (7 : Int32) = 8 by decide), if_pos (rfl : (7 : Int32) = 7), if_neg (show ¬ nI 1 = 5 by decide), if_pos (rfl : true = true)]
    unfold f_PS_doWithWords
    try dsimp only
    rw [if_neg (show ¬ nI 7 = 4 by decide), if_neg (show ¬ nI 7 = 5 by decide), if_neg (show ¬ nI 7 = 6 by decide), if_pos (show nI 1 = 1 by decide), if_pos (rfl : true = true)]
    have w := ha.w
    obtain ⟨f1, m1⟩ := putWord_C hc.m (k := 0) (V := a.w) (kk := 0) (by decide) (by omega) rfl hc.w
    obtain ⟨f2, m2⟩ := setWord_M hm.m (k := 0) (V := a.w) (kk := 0) (by decide) (by omega) rfl hm.w
    exact ⟨_, by exact AOK_m ha (putmm_lt ha.m _ _ _), RC_100 hc f1 m1, RM_100 hm f2 m2, hk⟩
  · have t1 : ¬ (0 : Int32) ≤ tb2.getD (jat (nI 5 * 8 + nI 4)) 0 := by decide
    have t2 : f_M_operandOf (nI 5) (nI 4) = 9 := by decide
    have t3 : f_M_isWritten (nI 5) (nI 4) = false := by decide
    rw [if_neg t1, t2, t3, if_neg (show ¬ jrem (nI 5) 2 = 0 by decide), if_pos (rfl : (9 : Int32) = 9), if_neg Bool.false_ne_true]
    unfold f_PS_doWithWords f_M_readState
    try dsimp only
    rw [if_pos (show nI 4 = 4 by decide), if_neg (show ¬ nI 5 = 1 by decide), if_neg Bool.false_ne_true]
    have ok := AOK_env ha
    have c := rReg_C (rEnv_C hc ha) ok
    have m := rReg_M (rEnv_M hm ha) ok
    have s : ∀ k, (rdA (envA a) k).lc = (rdA (envA a) k).kc ∧ (rdA (envA a) k).lp = (rdA (envA a) k).kp ∧ (rdA (envA a) k).lo = (rdA (envA a) k).ko ∧ kp6 (rdA (envA a) k) = kp6 (envA a) := fun k => by
      induction k with
      | zero => exact ⟨rfl, rfl, rfl, rfl⟩
      | succ k ih => exact ih
    have o8 := AOK_rd ok 8
    rw [← (s 8).2.2.2] at o8
    exact ⟨_, o8, c, m, (s 8).1, (s 8).2.1, (s 8).2.2.1⟩
  · have t1 : ¬ (0 : Int32) ≤ tb2.getD (jat (nI 5 * 8 + nI 6)) 0 := by decide
    have t2 : f_M_operandOf (nI 5) (nI 6) = 9 := by decide
    have t3 : f_M_isWritten (nI 5) (nI 6) = true := by decide
    rw [if_neg t1, t2, t3, if_neg (show ¬ jrem (nI 5) 2 = 0 by decide), if_pos (rfl : (9 : Int32) = 9), if_pos (rfl : true = true)]
    unfold f_PS_doWithWords f_M_writeState
    try dsimp only
    rw [if_neg (show ¬ nI 6 = 4 by decide), if_neg (show ¬ nI 6 = 5 by decide), if_pos (show nI 6 = 6 by decide), if_neg (show ¬ nI 5 = 1 by decide), if_neg Bool.false_ne_true]
    have ok : AOK (kp6 a) (Ab.mk17 (e7m a) a.r a.e a.top a.w a.told a.c0 a.c1 a.c2 a.c3 a.kc a.kp a.ko a.lc a.lp a.lo a.now) := AOK_m ha (e7m_lt ha)
    have c := ini_C (wReg_C (wEnv_C hc ha) ok)
    have m := beg_M (wReg_M (wEnv_M hm ha hk) ok)
    have o8 := AOK_beg (AOK_m ok (m := wrm (Ab.mk17 (e7m a) a.r a.e a.top a.w a.told a.c0 a.c1 a.c2 a.c3 a.kc a.kp a.ko a.lc a.lp a.lo a.now) (e7m a) 8) (wrm_lt (e7m_lt ha) 8))
    exact ⟨_, o8, c, m, rfl, rfl, rfl⟩
  · have t1 : ¬ (0 : Int32) ≤ tb2.getD (jat (nI 5 * 8 + nI 7)) 0 := by decide
    have t2 : f_M_operandOf (nI 5) (nI 7) = 7 := by decide
    rw [if_neg t1, t2, if_neg (show ¬ jrem (nI 5) 2 = 0 by decide), if_neg (show ¬ (7 : Int32) = 9 by decide), if_neg (show ¬ (7 : Int32) = 8 by decide), if_pos (rfl : (7 : Int32) = 7), if_pos (show nI 5 = 5 by decide)]
    unfold f_PS_doWithWords
    try dsimp only
    rw [if_neg (show ¬ nI 7 = 4 by decide), if_neg (show ¬ nI 7 = 5 by decide), if_neg (show ¬ nI 7 = 6 by decide), if_neg (show ¬ nI 5 = 1 by decide), if_neg Bool.false_ne_true]
    have sl := statN_lt ha
    obtain ⟨f1, m1⟩ := putWord_C hc.m (k := 0) (V := statN a) (kk := 0) (by decide) (by omega) rfl (status_C hc ha)
    obtain ⟨f2, m2⟩ := setWord_M hm.m (k := 0) (V := statN a) (kk := 0) (by decide) (by omega) rfl (status_M hm ha)
    exact ⟨_, by exact AOK_m ha (putmm_lt ha.m _ _ _), RC_100 hc f1 m1, RM_100 hm f2 m2, hk⟩
