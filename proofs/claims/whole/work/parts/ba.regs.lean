/-! registers saved and brought back -/
def wrm (a : Ab) (m : Nat → Nat) : Nat → (Nat → Nat)
  | 0 => m
  | k + 1 => putm (putm (wrm a m k) (14 + 10 * k) 8 (a.r (plN a k)).2.2) (22 + 10 * k) 2 (topN (a.r (plN a k)))
theorem wrm_lt {a : Ab} {m : Nat → Nat} (h : ∀ k, m k < 256) : ∀ k, ∀ i, wrm a m k i < 256
  | 0 => h
  | k + 1 => putmm_lt (putmm_lt (wrm_lt h k) _ _ _) _ _ _
theorem wReg_C {K : K6} {a : Ab} {σ : St} (h : RC a σ) (ha : AOK K a) : RC (Ab.mk17 (wrm a a.m 8) a.r a.e a.top a.w a.told a.c0 a.c1 a.c2 a.c3 a.kc a.kp a.ko a.lc a.lp a.lo a.now) (f_PS_writeRegisters σ) := by
  unfold f_PS_writeRegisters
  try dsimp only
  refine lpn_P (b := b_PS_writeRegisters_2) (fun k t => t.1 = nI k ∧ RC (Ab.mk17 (wrm a a.m k) a.r a.e a.top a.w a.told a.c0 a.c1 a.c2 a.c3 a.kc a.kp a.ko a.lc a.lp a.lo a.now) t.2) (fun y => RC (Ab.mk17 (wrm a a.m 8) a.r a.e a.top a.w a.told a.c0 a.c1 a.c2 a.c3 a.kc a.kp a.ko a.lc a.lp a.lo a.now) y.2) 8 ?_ ?_ (by decide) ⟨rfl, h⟩
  · intro k t hk ⟨t1, t2⟩
    obtain ⟨v, s⟩ := t
    simp only at t1 t2
    subst t1
    have c1 : ¬ (8 : Int32) ≤ nI k := nI_ge (b := 8) (by omega) (by decide)
    have a1 : AOK K (Ab.mk17 (wrm a a.m k) a.r a.e a.top a.w a.told a.c0 a.c1 a.c2 a.c3 a.kc a.kp a.ko a.lc a.lp a.lo a.now) := AOK_m ha (wrm_lt ha.m k)
    have p : f_PS_place s (nI k) = nI (plN a k) := place_C t2 a1 hk
    have e1 : (14 : Int32) + nI k * 10 = nI (14 + 10 * k) := by
      have : nI k * 10 = nI (k * 10) := pk_mul k 10
      have e : (14 : Int32) + nI (k * 10) = nI (14 + k * 10) := nI_add 14 _
      rw [this, e, Nat.mul_comm k 10]
    obtain ⟨w1, w2⟩ := writePattern_C (f := 14 + 10 * k) (F := 14 + nI k * 10) e1 t2.m (t2.r _ (plN_lt a k)) (by omega)
    rw [show 14 + 10 * k + 8 = 22 + 10 * k by omega] at w1
    refine ⟨(nI (k + 1), f_Wr_writePattern s (14 + nI k * 10) (16 + plN a k)), ?_, rfl, RC_1m t2 w2 w1⟩
    unfold b_PS_writeRegisters_2
    simp only [c1, if_false, p, jat_pl, nI_1]
  · intro t ⟨t1, t2⟩
    obtain ⟨v, s⟩ := t
    simp only at t1 t2
    subst t1
    have c1 : (8 : Int32) ≤ nI 8 := by decide
    refine ⟨(nI 8, s), ?_, t2⟩
    unfold b_PS_writeRegisters_2
    simp only [c1, if_true]
theorem shr_byteL (x : Int64) {k : Nat} (hk : k ≤ 56) : Int64.toInt32 (jlshr x (nI k) &&& 255) = nI (uN x / 2 ^ k % 256) := by
  have e : (jlshr x (nI k)).toBitVec = x.toBitVec.sshiftRight k := by
    unfold jlshr
    rw [Int64.toBitVec_shiftRight, BitVec.sshiftRight', sh_c k (by omega)]
  have u : uN (jlshr x (nI k) &&& 255) = uN x / 2 ^ k % 256 := by
    rw [uN_andd, show uN 255 = 2 ^ 8 - 1 from rfl, Nat.and_two_pow_sub_one_eq_mod, show (256 : Nat) = 2 ^ 8 from rfl]
    apply Nat.eq_of_testBit_eq
    intro i
    rw [Nat.testBit_mod_two_pow, Nat.testBit_mod_two_pow, Nat.testBit_div_two_pow]
    by_cases c : i < 8
    · have e1 : uN (jlshr x (nI k)) = (jlshr x (nI k)).toBitVec.toNat := rfl
      have e2 : (x.toBitVec.sshiftRight k).toNat.testBit i = (x.toBitVec.sshiftRight k).getLsbD i := rfl
      have c2 : k + i < 64 := by omega
      have c3 : ¬ 64 ≤ i := by omega
      rw [e1, e, e2, BitVec.getLsbD_sshiftRight]
      simp [c, c2, c3]
      rw [show i + k = k + i from Nat.add_comm i k]
      rfl
    · simp [c]
  rw [i32_of_l (by rw [u]; omega), u]
theorem bytes_loopM {s : St} {m : Nat → Nat} {k p F : Nat} {v0 : Int32 × St} (hk : k < 8) (h0 : v0.1 = nI k) (hp : ∀ t, fr100 s t → f_M_st t (nI k) = nI p) (p8 : p < 8) (hF : uN (gJ s 102 p) = F) (hm : RBy s m) : fr100 s (lpn (b_M_writeState_14 v0) (upf 8 0) (0, s)).2 ∧ RBy (lpn (b_M_writeState_14 v0) (upf 8 0) (0, s)).2 (putm m (14 + 10 * k) 8 F) := by
  refine lpn_P (b := b_M_writeState_14 v0) (fun i t => t.1 = nI i ∧ fr100 s t.2 ∧ RBy t.2 (putm m (14 + 10 * k) i F)) (fun y => fr100 s y.2 ∧ RBy y.2 (putm m (14 + 10 * k) 8 F)) 8 ?_ ?_ (by decide) ?_
  · intro i t hi ⟨t1, t2, t3⟩
    obtain ⟨v, s1⟩ := t
    simp only at t1 t2 t3
    subst t1
    have c1 : ¬ (8 : Int32) ≤ nI i := nI_ge (b := 8) (by omega) (by decide)
    have e10 : (10 : Int32) * nI k = nI (10 * k) := pk_mul 10 k
    have e14 : (14 : Int32) + nI (10 * k) = nI (14 + 10 * k) := nI_add 14 _
    have ei : nI (14 + 10 * k) + nI i = nI (14 + 10 * k + i) := nI_add _ _
    have j : jat (nI (14 + 10 * k + i)) = 14 + 10 * k + i := nI_clamp (by omega)
    have jp : jat (nI p) = p := nI_clamp (by omega)
    have e8 : (8 : Int32) * nI i = nI (8 * i) := pk_mul 8 i
    have g : gJ s1 102 p = gJ s 102 p := t2.2.1 102 p
    have by1 : Int64.toInt32 (jlshr (gJ s 102 p) (nI (8 * i)) &&& 255) = nI (F / 2 ^ (8 * i) % 256) := by
      rw [shr_byteL _ (by omega), hF]
    refine ⟨(nI (i + 1), sI s1 100 (14 + 10 * k + i) (nI (F / 2 ^ (8 * i) % 256))), ?_, rfl, fr100_trans t2 (fr100_I _ _ _), fun x hx => ?_⟩
    · unfold b_M_writeState_14
      simp only [c1, if_false, h0, e10, e14, ei, j, hp s1 t2, jp, g, e8, by1, nI_1]
    · show gI (sI s1 100 (14 + 10 * k + i) _) 100 x = _
      have t3x := t3 x hx
      unfold putm at t3x ⊢
      rw [gI_sI, if_pos rfl]
      by_cases q : x = 14 + 10 * k + i
      · rw [if_pos q, if_pos ⟨by omega, by omega⟩, p256, show x - (14 + 10 * k) = i by omega]
      · rw [if_neg q, t3x]
        by_cases z : 14 + 10 * k ≤ x ∧ x < 14 + 10 * k + i
        · rw [if_pos z, if_pos ⟨by omega, by omega⟩]
        · rw [if_neg z, if_neg (by omega)]
  · intro t ⟨t1, t2, t3⟩
    obtain ⟨v, s1⟩ := t
    simp only at t1 t2 t3
    subst t1
    have c1 : (8 : Int32) ≤ nI 8 := by decide
    refine ⟨(nI 8, s1), ?_, t2, t3⟩
    unfold b_M_writeState_14
    simp only [c1, if_true]
  · refine ⟨rfl, fr100_refl s, fun x hx => ?_⟩
    show gI s 100 x = nI (putm m (14 + 10 * k) 0 F x)
    unfold putm
    rw [if_neg (by omega)]
    exact hm x hx
theorem wReg_M {K : K6} {a : Ab} {τ : St} (h : RM a τ) (ha : AOK K a) : RM (Ab.mk17 (wrm a a.m 8) a.r a.e a.top a.w a.told a.c0 a.c1 a.c2 a.c3 a.kc a.kp a.ko a.lc a.lp a.lo a.now) (lpn b_M_writeState_6 (upf 8 0) (0, τ)).2 := by
  refine lpn_P (b := b_M_writeState_6) (fun k t => t.1 = nI k ∧ RM (Ab.mk17 (wrm a a.m k) a.r a.e a.top a.w a.told a.c0 a.c1 a.c2 a.c3 a.kc a.kp a.ko a.lc a.lp a.lo a.now) t.2) (fun y => RM (Ab.mk17 (wrm a a.m 8) a.r a.e a.top a.w a.told a.c0 a.c1 a.c2 a.c3 a.kc a.kp a.ko a.lc a.lp a.lo a.now) y.2) 8 ?_ ?_ (by decide) ⟨rfl, h⟩
  · intro k t hk ⟨t1, t2⟩
    obtain ⟨v, s⟩ := t
    simp only at t1 t2
    subst t1
    have c1 : ¬ (8 : Int32) ≤ nI k := nI_ge (b := 8) (by omega) (by decide)
    have a1 : AOK K (Ab.mk17 (wrm a a.m k) a.r a.e a.top a.w a.told a.c0 a.c1 a.c2 a.c3 a.kc a.kp a.ko a.lc a.lp a.lo a.now) := AOK_m ha (wrm_lt ha.m k)
    have st : ∀ t, fr100 s t → f_M_st t (nI k) = nI (plN a k) := fun t f => by
      have e := st_M t2 a1 hk
      have e' : f_M_st t (nI k) = f_M_st s (nI k) := by
        unfold f_M_st
        try dsimp only
        rw [f.1 1 30 (by decide)]
      rw [e', e]
      rfl
    obtain ⟨r1, r2, r3⟩ := t2.r _ (plN_lt a k)
    obtain ⟨b1, b2⟩ := bytes_loopM (v0 := (nI k, s)) hk rfl st (plN_lt a k) r2 t2.m
    generalize hs3 : (lpn (b_M_writeState_14 (nI k, s)) (upf 8 0) (0, s)).2 = s3 at *
    have e10 : (10 : Int32) * nI k = nI (10 * k) := pk_mul 10 k
    have e22 : (22 : Int32) + nI (10 * k) = nI (22 + 10 * k) := nI_add 22 _
    have g101 : gI s3 101 (plN a k) = nI (topN (a.r (plN a k))) := by rw [b1.1 101 _ (by decide)]; exact r1
    have tl : topN (a.r (plN a k)) < 65536 := topN_lt (ha.r _ (plN_lt a k))
    obtain ⟨w1, w2⟩ := setWord_M b2 (k := 22 + 10 * k) (V := topN (a.r (plN a k))) (by omega) (by omega) rfl rfl
    refine ⟨(nI (k + 1), f_M_setWord s3 (nI (22 + 10 * k)) (nI (topN (a.r (plN a k))))), ?_, rfl, RM_1m t2 (fr100_trans b1 w1) w2⟩
    unfold b_M_writeState_6
    simp only [c1, if_false, hs3, e10, e22, st s3 b1, jat_pl, g101, nI_1]
  · intro t ⟨t1, t2⟩
    obtain ⟨v, s⟩ := t
    simp only at t1 t2
    subst t1
    have c1 : (8 : Int32) ≤ nI 8 := by decide
    refine ⟨(nI 8, s), ?_, t2⟩
    unfold b_M_writeState_6
    simp only [c1, if_true]
def patR (m : Nat → Nat) (k : Nat) : Re := (decide (32768 ≤ wdN m (22 + 10 * k)), wdN m (22 + 10 * k) % 32768, bN m (14 + 10 * k) 8)
def rdA (a : Ab) : Nat → Ab
  | 0 => a
  | k + 1 => (Ab.mk17 (rdA a k).m (updt (rdA a k).r (plN a k) (patR a.m k)) (rdA a k).e (rdA a k).top (rdA a k).w (rdA a k).told (rdA a k).c0 (rdA a k).c1 (rdA a k).c2 (rdA a k).c3 (rdA a k).kc (rdA a k).kp (rdA a k).ko (rdA a k).lc (rdA a k).lp (rdA a k).lo (rdA a k).now)
theorem rdA_s (a : Ab) : ∀ k, (rdA a k).m = a.m ∧ (rdA a k).top = a.top
  | 0 => ⟨rfl, rfl⟩
  | k + 1 => rdA_s a k
theorem AOK_rd {K : K6} {a : Ab} (h : AOK K a) : ∀ k, AOK K (rdA a k)
  | 0 => h
  | k + 1 => (AOK_mk (AOK_rd h k).m (fun i hi => by
      show (updt (rdA a k).r (plN a k) (patR a.m k) i).2.1 ≤ 32767
      unfold updt
      split
      · show wdN a.m (22 + 10 * k) % 32768 ≤ 32767
        omega
      · exact (AOK_rd h k).r i hi) (AOK_rd h k).top (AOK_rd h k).w (AOK_rd h k).told (AOK_rd h k).kc (AOK_rd h k).kp (AOK_rd h k).ko (AOK_rd h k).lc (AOK_rd h k).lp (AOK_rd h k).lo (AOK_rd h k).now (AOK_rd h k).kk)
theorem reg_RC {a : Ab} {σ s : St} {i : Nat} {R : Re} (h : RC a σ) (hi : i < 8) (fI : ∀ j y, ¬ (j = 16 ∧ y = 16 + i) → gI s j y = gI σ j y) (fJ : ∀ j y, ¬ (j = 17 ∧ y = 16 + i) → gJ s j y = gJ σ j y) (fZ : ∀ j y, ¬ (j = 15 ∧ y = 16 + i) → gZ s j y = gZ σ j y) (hR : RealIs s (16 + i) R.1 R.2.1 R.2.2) : RC (Ab.mk17 a.m (updt a.r i R) a.e a.top a.w a.told a.c0 a.c1 a.c2 a.c3 a.kc a.kp a.ko a.lc a.lp a.lo a.now) s := RC_mk
  (fun j hj => by rw [fI 100 j (by omega)]; exact h.m j hj)
  (fun j hj => by
    show RealIs s (16 + j) (updt a.r i R j).1 (updt a.r i R j).2.1 (updt a.r i R j).2.2
    by_cases z : j = i
    · rw [z, updt_self]
      exact hR
    · rw [updt_ne _ _ z]
      obtain ⟨h1, h2, h3, h4⟩ := h.r j hj
      exact ⟨by rw [fZ 15 _ (by omega)]; exact h1, by rw [fI 16 _ (by omega)]; exact h2, by rw [fJ 17 _ (by omega)]; exact h3, h4⟩)
  (fun j hj => by rw [fZ 101 j (by omega)]; exact h.e j hj)
  (by rw [fI 0 0 (by omega)]; exact h.top)
  (by rw [fI 6 3 (by omega)]; exact h.w)
  (by rw [fI 1 0 (by omega)]; exact h.told)
  (by rw [fI 2 0 (by omega)]; exact h.c)
  (by rw [fI 3 0 (by omega)]; exact h.kc)
  (by rw [fI 4 0 (by omega)]; exact h.kp)
  (by rw [fI 5 0 (by omega)]; exact h.ko)
  (by rw [fI 7 3 (by omega)]; exact h.now)
theorem rReg_C {K : K6} {a : Ab} {σ : St} (h : RC a σ) (ha : AOK K a) : RC (rdA a 8) (f_PS_readRegisters σ) := by
  have hm := ha.m
  unfold f_PS_readRegisters
  try dsimp only
  refine lpn_P (b := b_PS_readRegisters_2) (fun k t => t.1 = nI k ∧ RC (rdA a k) t.2) (fun y => RC (rdA a 8) y.2) 8 ?_ ?_ (by decide) ⟨rfl, h⟩
  · intro k t hk ⟨t1, t2⟩
    obtain ⟨v, s⟩ := t
    simp only at t1 t2
    subst t1
    obtain ⟨q1, q2⟩ := rdA_s a k
    have pl : plN (rdA a k) k = plN a k := by
      unfold plN
      rw [q2]
    have c1 : ¬ (8 : Int32) ≤ nI k := nI_ge (b := 8) (by omega) (by decide)
    have p : f_PS_place s (nI k) = nI (plN a k) := by
      rw [place_C t2 (AOK_rd ha k) hk, pl]
    have e1 : (14 : Int32) + nI k * 10 = nI (14 + 10 * k) := by
      have : nI k * 10 = nI (k * 10) := pk_mul k 10
      have e : (14 : Int32) + nI (k * 10) = nI (14 + k * 10) := nI_add 14 _
      rw [this, e, Nat.mul_comm k 10]
    have e2 : nI (14 + 10 * k) + 8 = nI (22 + 10 * k) := by
      have e : nI (14 + 10 * k) + 8 = nI (14 + 10 * k + 8) := nI_add _ 8
      rw [e]
      congr 1
      omega
    have M : MB s a.m := by rw [← q1]; exact t2.m
    have wl := wdN_lt hm (22 + 10 * k)
    have v1 := word_C M hm (k := 22 + 10 * k) (kk := nI (22 + 10 * k)) rfl (by omega)
    have v2 : uN (f_Mem_bits s (nI (14 + 10 * k)) 8) = bN a.m (14 + 10 * k) 8 := bits_C M hm (14 + 10 * k) 8 (by decide) (by decide) (by omega)
    have c2 : (nI (wdN a.m (22 + 10 * k)) < 32768) ↔ ¬ 32768 ≤ wdN a.m (22 + 10 * k) := by
      have : ((32768 : Int32) ≤ nI (wdN a.m (22 + 10 * k))) ↔ 32768 ≤ wdN a.m (22 + 10 * k) := nI_leI (a := 32768) (by decide) (by omega)
      rw [← this]
      exact Int32.not_le.symm
    have c3 : nI (wdN a.m (22 + 10 * k)) &&& 32767 = nI (wdN a.m (22 + 10 * k) % 32768) := low_C (k := 15) (by omega) (by decide)
    have t : (if nI (wdN a.m (22 + 10 * k)) < 32768 then false else true) = decide (32768 ≤ wdN a.m (22 + 10 * k)) := by
      simp only [c2]
      by_cases q : 32768 ≤ wdN a.m (22 + 10 * k) <;> simp [q]
    refine ⟨(nI (k + 1), f_Real_set s (16 + plN a k) (decide (32768 ≤ wdN a.m (22 + 10 * k))) (nI (wdN a.m (22 + 10 * k) % 32768)) (f_Mem_bits s (nI (14 + 10 * k)) 8)), ?_, rfl, ?_⟩
    · unfold b_PS_readRegisters_2 f_Rd_readPattern
      simp only [c1, if_false, p, jat_pl, e1, e2, v1, t, c3, nI_1]
    · have r := set_R s (16 + plN a k) (decide (32768 ≤ wdN a.m (22 + 10 * k))) (P := wdN a.m (22 + 10 * k) % 32768) (f_Mem_bits s (nI (14 + 10 * k)) 8) rfl (by omega)
      rw [v2] at r
      refine reg_RC (R := patR a.m k) t2 (plN_lt a k) (fun j y q => ?_) (fun j y q => ?_) (fun j y q => ?_) r.2.2
      · unfold f_Real_set
        try dsimp only
        rw [gI_sJ, gI_sI]
        by_cases z : j = 16
        · rw [if_pos z, if_neg (fun e => q ⟨z, e⟩), gI_sZ]
        · rw [if_neg z, gI_sZ]
      · unfold f_Real_set
        try dsimp only
        rw [gJ_sJ]
        by_cases z : j = 17
        · rw [if_pos z, if_neg (fun e => q ⟨z, e⟩)]
          rfl
        · rw [if_neg z]
          rfl
      · unfold f_Real_set
        try dsimp only
        show gZ (sZ s 15 (16 + plN a k) _) j y = _
        rw [gZ_sZ]
        by_cases z : j = 15
        · rw [if_pos z, if_neg (fun e => q ⟨z, e⟩)]
        · rw [if_neg z]
  · intro t ⟨t1, t2⟩
    obtain ⟨v, s⟩ := t
    simp only at t1 t2
    subst t1
    have c1 : (8 : Int32) ≤ nI 8 := by decide
    refine ⟨(nI 8, s), ?_, t2⟩
    unfold b_PS_readRegisters_2
    simp only [c1, if_true]
theorem bytes_rd {s : St} {m : Nat → Nat} {k : Nat} {v0 : Int32 × St} (hm : ∀ k, m k < 256) (hk : k < 8) (h0 : v0.1 = nI k) (hs : v0.2 = s) (h : RBy s m) : uN (lpn (b_M_readState_18 v0) (dnf 7) (7, 0)).2 = bN m (14 + 10 * k) 8 := by
  refine lpn_P (b := b_M_readState_18 v0) (fun i t => t.1.toInt = 7 - (i : Int) ∧ uN t.2 = bN m (14 + 10 * k + (8 - i)) i) (fun y => uN y.2 = bN m (14 + 10 * k) 8) 8 ?_ ?_ (by decide) ⟨by decide, rfl⟩
  · intro i t hi ⟨t1, t2⟩
    obtain ⟨v, b⟩ := t
    simp only at t1 t2
    obtain ⟨d1, d2, d3, d4⟩ := dnW_step hi t1
    have e10 : (10 : Int32) * nI k = nI (10 * k) := pk_mul 10 k
    have e14 : (14 : Int32) + nI (10 * k) = nI (14 + 10 * k) := nI_add 14 _
    have ei : nI (14 + 10 * k) + v = nI (14 + 10 * k + (7 - i)) := by
      rw [d1]
      exact nI_add _ _
    have j : jat (nI (14 + 10 * k + (7 - i))) = 14 + 10 * k + (7 - i) := nI_clamp (by omega)
    have g : gI v0.2 100 (14 + 10 * k + (7 - i)) = nI (m (14 + 10 * k + (7 - i))) := by rw [hs]; exact h _ (by omega)
    have bl := hm (14 + 10 * k + (7 - i))
    refine ⟨(v + (-1), 256 * b + Int32.toInt64 (nI (m (14 + 10 * k + (7 - i))))), ?_, d2, ?_⟩
    · unfold b_M_readState_18
      simp only [d3, if_false, h0, e10, e14, ei, j, g]
    · show uN (256 * b + Int32.toInt64 (nI (m (14 + 10 * k + (7 - i))))) = _
      have nl := bN_lt hm i (14 + 10 * k + (8 - i))
      have p : (256 : Nat) ^ i ≤ 256 ^ 7 := Nat.pow_le_pow_right (by decide) (by omega)
      have e7 : (256 : Nat) ^ 7 = 72057594037927936 := rfl
      have s : bN m (14 + 10 * k + (8 - (i + 1))) (i + 1) = m (14 + 10 * k + (7 - i)) + 256 * bN m (14 + 10 * k + (8 - i)) i := by
        rw [bN_succ, show 14 + 10 * k + (8 - (i + 1)) = 14 + 10 * k + (7 - i) by omega, show 14 + 10 * k + (7 - i) + 1 = 14 + 10 * k + (8 - i) by omega]
      rw [uN_add, uN_mul, uN_nI (by omega), t2, show uN 256 = 256 from rfl, s]
      omega
  · intro t ⟨t1, t2⟩
    obtain ⟨v, b⟩ := t
    simp only at t1 t2
    have c1 : v < 0 := Int32.lt_iff_toInt_lt.mpr (by rw [t1]; decide)
    refine ⟨(v, b), ?_, t2⟩
    unfold b_M_readState_18
    simp only [c1, if_true]
theorem patR_top {m : Nat → Nat} (hm : ∀ k, m k < 256) (k : Nat) : topN (patR m k) = wdN m (22 + 10 * k) := by
  have l := wdN_lt hm (22 + 10 * k)
  unfold topN patR
  try dsimp only
  by_cases q : 32768 ≤ wdN m (22 + 10 * k)
  · rw [decide_eq_true q]
    show 1 * 32768 + _ = _
    omega
  · rw [decide_eq_false q]
    show 0 * 32768 + _ = _
    omega
theorem rReg_M {K : K6} {a : Ab} {τ : St} (h : RM a τ) (ha : AOK K a) : RM (rdA a 8) (lpn b_M_readState_6 (upf 8 0) (0, τ)).2 := by
  have hm := ha.m
  refine lpn_P (b := b_M_readState_6) (fun k t => t.1 = nI k ∧ RM (rdA a k) t.2) (fun y => RM (rdA a 8) y.2) 8 ?_ ?_ (by decide) ⟨rfl, h⟩
  · intro k t hk ⟨t1, t2⟩
    obtain ⟨v, s⟩ := t
    simp only at t1 t2
    subst t1
    obtain ⟨q1, q2⟩ := rdA_s a k
    have pl : plN (rdA a k) k = plN a k := by
      unfold plN
      rw [q2]
    have c1 : ¬ (8 : Int32) ≤ nI k := nI_ge (b := 8) (by omega) (by decide)
    have st : f_M_st s (nI k) = nI (plN a k) := by
      rw [st_M t2 (AOK_rd ha k) hk, pl]
    have M : RBy s a.m := by rw [← q1]; exact t2.m
    have rd := bytes_rd (v0 := (nI k, s)) hm hk rfl rfl M
    have e10 : (10 : Int32) * nI k = nI (10 * k) := pk_mul 10 k
    have e22 : (22 : Int32) + nI (10 * k) = nI (22 + 10 * k) := nI_add 22 _
    have wl := wdN_lt hm (22 + 10 * k)
    refine ⟨(nI (k + 1), sI (sJ s 102 (plN a k) (lpn (b_M_readState_18 (nI k, s)) (dnf 7) (7, 0)).2) 101 (plN a k) (nI (wdN a.m (22 + 10 * k)))), ?_, rfl, ?_⟩
    · have st2 : ∀ x, f_M_st (sJ s 102 (plN a k) x) (nI k) = nI (plN a k) := fun x => st
      have wd : ∀ x, f_M_wordAt (sJ s 102 (plN a k) x) (nI (22 + 10 * k)) = nI (wdN a.m (22 + 10 * k)) := fun x => word_M (τ := sJ s 102 (plN a k) x) (fun j hj => M j hj) rfl (by omega)
      unfold b_M_readState_6
      simp only [c1, if_false, st, jat_pl, st2, e10, e22, wd, nI_1]
    · generalize (lpn (b_M_readState_18 (nI k, s)) (dnf 7) (7, 0)).2 = F at *
      refine (RM_mk (fun j hj => ?_) (fun i hi => ?_) (fun i hi => ?_) (?_) (?_) (?_) (?_) (?_) (?_) (?_) (?_) (?_))
      · rw [eq_gI (by decide)]
        exact t2.m j hj
      · show RegIs _ 101 102 i (updt (rdA a k).r (plN a k) (patR a.m k) i)
        by_cases z : i = plN a k
        · rw [z, updt_self]
          refine ⟨?_, ?_, ?_⟩
          · rw [self_gI, patR_top hm]
          · show uN (gJ (sJ s 102 (plN a k) F) 102 (plN a k)) = _
            rw [gJ_sJ, if_pos rfl, if_pos rfl]
            exact rd
          · show wdN a.m (22 + 10 * k) % 32768 ≤ 32767
            omega
        · rw [updt_ne _ _ z]
          obtain ⟨h1, h2, h3⟩ := t2.r i hi
          refine ⟨?_, ?_, h3⟩
          · rw [gI_sI, if_pos rfl, if_neg z]
            exact h1
          · show uN (gJ (sJ s 102 (plN a k) F) 102 i) = _
            rw [gJ_sJ, if_pos rfl, if_neg z]
            exact h2
      · exact t2.e i hi
      · rw [eq_gI (by decide)]; exact t2.top
      · rw [eq_gI (by decide)]; exact t2.w
      · rw [eq_gI (by decide)]; exact t2.told
      · rw [eq_gI (by decide)]; exact t2.c
      · rw [eq_gI (by decide)]; exact t2.kc
      · rw [eq_gI (by decide)]; exact t2.kp
      · rw [eq_gI (by decide)]; exact t2.ko
      · rw [eq_gI (by decide)]; exact t2.now
      · exact Byt_eq (fun x => by rw [eq_gI (by decide)]; rfl) t2.byt
  · intro t ⟨t1, t2⟩
    obtain ⟨v, s⟩ := t
    simp only at t1 t2
    subst t1
    have c1 : (8 : Int32) ≤ nI 8 := by decide
    refine ⟨(nI 8, s), ?_, t2⟩
    unfold b_M_readState_6
    simp only [c1, if_true]
