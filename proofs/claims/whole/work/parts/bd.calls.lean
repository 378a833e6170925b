/-! the calls -/
theorem thr_RM {a : Ab} {τ : St} (h : RM a τ) (v : Int32) : RM a (sI τ 0 30 v) := sI_RM (b := a) h rfl rfl rfl (by decide) (by rw [eq_gI (by decide)]; exact h.top) (by rw [eq_gI (by decide)]; exact h.w) (by rw [eq_gI (by decide)]; exact h.told) (by rw [eq_gI (by decide)]; exact h.c) (by rw [eq_gI (by decide)]; exact h.kc) (by rw [eq_gI (by decide)]; exact h.kp) (by rw [eq_gI (by decide)]; exact h.ko) (by rw [eq_gI (by decide)]; exact h.now)
theorem thr_Rest {σ τ : St} (h : Rest σ τ) (v : Int32) : Rest σ (sI τ 0 30 v) := by
  obtain ⟨b, h1, h2, h3, h4⟩ := h
  exact ⟨b, h1, h2, thr_RM h3 v, h4⟩
theorem i32_nat {x : Int32} (h : ¬ x < 0) : x = nI x.toInt.toNat ∧ 0 ≤ x.toInt := by
  have h0 : 0 ≤ x.toInt := by
    have : ¬ x.toInt < (0 : Int32).toInt := fun q => h (Int32.lt_iff_toInt_lt.mpr q)
    have z : (0 : Int32).toInt = 0 := by decide
    omega
  have b := Int32.toInt_lt x
  refine ⟨?_, h0⟩
  apply Int32.toInt_inj.mp
  rw [nI_toInt (by omega)]
  omega
theorem i32_ltk {x : Int32} {k : Int32} {n : Int} (hk : k.toInt = n) : x < k ↔ x.toInt < n := by rw [Int32.lt_iff_toInt_lt, hk]
theorem i32_le {x : Int32} {k : Int32} {n : Int} (hk : k.toInt = n) : x ≤ k ↔ x.toInt ≤ n := by rw [Int32.le_iff_toInt_le, hk]
theorem i32_ltk' {x : Int32} {k : Int32} {n : Int} (hk : k.toInt = n) : k < x ↔ n < x.toInt := by rw [Int32.lt_iff_toInt_lt, hk]
theorem i32_le' {x : Int32} {k : Int32} {n : Int} (hk : k.toInt = n) : k ≤ x ↔ n ≤ x.toInt := by rw [Int32.le_iff_toInt_le, hk]
/-! memory -/
theorem mem4 (four : Int32) {j : Nat} (hj : j < 4) : uN (Int32.toInt64 four) / 256 ^ j % 256 = four.toBitVec.toNat / 2 ^ (8 * j) % 256 := by
  rw [p256]
  have e : uN (Int32.toInt64 four) = (four.toBitVec.signExtend 64).toNat := rfl
  apply Nat.eq_of_testBit_eq
  intro i
  rw [show (256 : Nat) = 2 ^ 8 from rfl, Nat.testBit_mod_two_pow, Nat.testBit_mod_two_pow, Nat.testBit_div_two_pow, Nat.testBit_div_two_pow, e]
  by_cases c : i < 8
  · have e2 : (four.toBitVec.signExtend 64).toNat.testBit (i + 8 * j) = (four.toBitVec.signExtend 64).getLsbD (i + 8 * j) := rfl
    have c1 : i + 8 * j < 64 := by omega
    have c2 : i + 8 * j < 32 := by omega
    rw [e2, BitVec.getLsbD_signExtend]
    simp [c, c1, c2]
    rfl
  · simp [c]
theorem memory_M {τ : St} {m : Nat → Nat} {i : Nat} {four : Int32} (h : RBy τ m) (hi : i ≤ 90) (h0 : gI τ 0 30 = 0) : fr100 τ (lpn (b_M_memory_21 (nI i) four) (upf 4 0) (0, τ)).2 ∧ RBy (lpn (b_M_memory_21 (nI i) four) (upf 4 0) (0, τ)).2 (putm m i 4 (uN (Int32.toInt64 four))) := by
  refine lpn_P (b := b_M_memory_21 (nI i) four) (fun j t => t.1 = nI j ∧ fr100 τ t.2 ∧ RBy t.2 (putm m i j (uN (Int32.toInt64 four)))) (fun y => fr100 τ y.2 ∧ RBy y.2 (putm m i 4 (uN (Int32.toInt64 four)))) 4 ?_ ?_ (by decide) ?_
  · intro j t hj ⟨t1, t2, t3⟩
    obtain ⟨v, s⟩ := t
    simp only at t1 t2 t3
    subst t1
    have c1 : ¬ (4 : Int32) ≤ nI j := nI_ge (b := 4) (by omega) (by decide)
    have g0 : gI s 0 30 = 0 := by rw [t2.1 0 30 (by decide)]; exact h0
    have e1 : nI i + nI j = nI (i + j) := nI_add _ _
    have jj : jat (nI (i + j)) = i + j := nI_clamp (by omega)
    have e8 : (8 : Int32) * nI j = nI (8 * j) := pk_mul 8 j
    have by1 : jshr four (nI (8 * j)) &&& 255 = nI (four.toBitVec.toNat / 2 ^ (8 * j) % 256) := shr_byte four (by omega)
    refine ⟨(nI (j + 1), sI s 100 (i + j) (nI (four.toBitVec.toNat / 2 ^ (8 * j) % 256))), ?_, rfl, fr100_trans t2 (fr100_I _ _ _), fun x hx => ?_⟩
    · unfold b_M_memory_21
      simp only [c1, if_false, g0, if_true, e1, jj, e8, by1, nI_1]
    · show gI (sI s 100 (i + j) _) 100 x = _
      have t3x := t3 x hx
      unfold putm at t3x ⊢
      rw [gI_sI, if_pos rfl]
      by_cases q : x = i + j
      · rw [if_pos q, if_pos ⟨by omega, by omega⟩, show x - i = j by omega, mem4 four hj]
      · rw [if_neg q, t3x]
        by_cases z : i ≤ x ∧ x < i + j
        · rw [if_pos z, if_pos ⟨by omega, by omega⟩]
        · rw [if_neg z, if_neg (by omega)]
  · intro t ⟨t1, t2, t3⟩
    obtain ⟨v, s⟩ := t
    simp only at t1 t2 t3
    subst t1
    have c1 : (4 : Int32) ≤ nI 4 := by decide
    refine ⟨(nI 4, s), ?_, t2, t3⟩
    unfold b_M_memory_21
    simp only [c1, if_true]
  · refine ⟨rfl, fr100_refl τ, fun x hx => ?_⟩
    show gI τ 100 x = nI (putm m i 0 (uN (Int32.toInt64 four)) x)
    unfold putm
    rw [if_neg (by omega)]
    exact h x hx
theorem memory_no {τ : St} {i four : Int32} (h0 : gI τ 0 30 = 1) : (lpn (b_M_memory_21 i four) (upf 4 0) (0, τ)).2 = τ := by
  refine lpn_P (b := b_M_memory_21 i four) (fun j t => t = (0, τ)) (fun y => y.2 = τ) 0 ?_ ?_ (by decide) rfl
  · intro j t hj
    omega
  · intro t et
    subst et
    have c1 : ¬ (4 : Int32) ≤ 0 := by decide
    have c2 : ¬ (1 : Int32) = 0 := by decide
    refine ⟨(0, τ), ?_, rfl⟩
    unfold b_M_memory_21
    simp only [c1, if_false, h0, c2]
def badI (i n : Int32) : Bool := if i < 0 then true else if i ≤ n then false else true
theorem badI_no {i n : Int32} (h : badI i n = false) : ¬ i < 0 ∧ i ≤ n := by
  unfold badI at h
  by_cases c : i < 0
  · rw [if_pos c] at h
    cases h
  · rw [if_neg c] at h
    by_cases c2 : i ≤ n
    · exact ⟨c, c2⟩
    · rw [if_neg c2] at h
      cases h
theorem i32_ok {x n : Int32} {N : Nat} (hn : n.toInt = N) (h : badI x n = false) : ∃ k : Nat, x = nI k ∧ k ≤ N := by
  obtain ⟨c1, c2⟩ := badI_no h
  obtain ⟨e1, e2⟩ := i32_nat c1
  rw [i32_le hn] at c2
  exact ⟨x.toInt.toNat, e1, by omega⟩
theorem memory_J {σ τ : St} (h : Rest σ τ) (i four : Int32) : (badI i 90 = true → gI (f_M_memory τ i four) 0 30 = 1 ∧ Rest σ (f_M_memory τ i four)) ∧ (badI i 90 = false → gI (f_M_memory τ i four) 0 30 = 0 ∧ Rest (f_Mem_put σ i 4 (Int32.toInt64 four)) (f_M_memory τ i four)) := by
  have e : f_M_memory τ i four = (lpn (b_M_memory_21 i four) (upf 4 0) (0, sI τ 0 30 (bI (badI i 90)))).2 := rfl
  rw [e]
  refine ⟨fun hb => ?_, fun hb => ?_⟩
  · rw [hb]
    have g : gI (sI τ 0 30 (bI true)) 0 30 = 1 := by rw [self_gI]; rfl
    rw [memory_no g]
    exact ⟨g, thr_Rest h _⟩
  · rw [hb]
    obtain ⟨k, rfl, hk⟩ := i32_ok (N := 90) (by decide) hb
    have g : gI (sI τ 0 30 (bI false)) 0 30 = 0 := by rw [self_gI]; rfl
    obtain ⟨b, b1, b2, b3, b4⟩ := h
    have b3' := thr_RM b3 (bI false)
    obtain ⟨m1, m2⟩ := memory_M (four := four) b3'.m hk g
    obtain ⟨p1, p2⟩ := put_at b2.m k 4 (F := nI k) (N := 4) rfl rfl (Int32.toInt64 four) (by decide) (by omega)
    refine ⟨?_, Ab.mk17 (putm b.m k 4 (uN (Int32.toInt64 four))) b.r b.e b.top b.w b.told b.c0 b.c1 b.c2 b.c3 b.kc b.kp b.ko b.lc b.lp b.lo b.now, ?_, RC_100 b2 p2 p1, RM_100 b3' m1 m2, b4⟩
    · rw [m1.1 0 30 (by decide)]
      exact g
    · exact AOK_m b1 (putmm_lt b1.m _ _ _)
theorem byteAt_J {σ τ : St} (h : Rest σ τ) (i : Int32) : gI (f_M_byteAt τ i).2 0 30 = bI (badI i 93) ∧ Rest σ (f_M_byteAt τ i).2 ∧ (badI i 93 = false → Int64.toInt32 (f_Mem_bits σ i 1) = (f_M_byteAt τ i).1) := by
  have e : f_M_byteAt τ i = ((if gI (sI τ 0 30 (bI (badI i 93))) 0 30 ≤ 0 then gI (sI τ 0 30 (bI (badI i 93))) 100 (jat i) else 0), sI τ 0 30 (bI (badI i 93))) := rfl
  rw [e]
  refine ⟨self_gI _ _ _ _, thr_Rest h _, fun hb => ?_⟩
  obtain ⟨k, rfl, hk⟩ := i32_ok (N := 93) (by decide) hb
  obtain ⟨b, b1, b2, b3, b4⟩ := h
  have j : jat (nI k) = k := nI_clamp (by omega)
  have m1 := b1.m k
  have u : uN (f_Mem_bits σ (nI k) 1) = b.m k := by
    have := bits_C b2.m b1.m k 1 (by decide) (by decide) (by omega)
    have e2 : bN b.m k 1 = b.m k := by
      show b.m k + 256 * 0 = _
      omega
    rw [e2] at this
    exact this
  rw [hb]
  show Int64.toInt32 (f_Mem_bits σ (nI k) 1) = (if gI (sI τ 0 30 (bI false)) 0 30 ≤ 0 then gI (sI τ 0 30 (bI false)) 100 (jat (nI k)) else 0)
  rw [self_gI, if_pos (show bI false ≤ 0 by decide), eq_gI (by decide), j, b3.m k (by omega), i32_of_l (by rw [u]; omega), u]
/-! words and parts -/
def c_word (σ : St) (a : Int32) : Int32 :=
  if a = 0 then gI σ 6 3 else if a = 1 then f_PS_status σ else if a = 2 then f_PS_tags σ
  else if a = 3 then (if f_PS_status σ &&& 128 = 0 then 0 else if gI σ 6 3 &&& 128 = 0 then 1 else 0)
  else if a = 4 then gI σ 3 0 else if a = 5 then gI σ 4 0 else if a = 6 then gI σ 5 0 else gI σ 7 3
theorem bit128 {v : Nat} (hv : v < 65536) : (nI v &&& 128 = 0) ↔ ¬ v / 128 % 2 = 1 := nI_bit (i := 7) hv (by decide)
def m_word (t : St) (a : Int32) : Int32 :=
  if a = 0 then gI t 2 30 else if a = 1 then f_M_status t else if a = 2 then f_M_tags t
  else if a = 3 then bI (if jrem (f_M_status t / 128) 2 = 1 then (if jrem (gI t 2 30 / 128) 2 = 0 then true else false) else false)
  else if a = 4 then gI t 5 30 else if a = 5 then gI t 6 30 else if a = 6 then gI t 7 30 else gI t 8 30
theorem word_eq0 (τ : St) (a : Int32) : f_M_word τ a = (if (gI (sI τ 0 30 (bI (badI a 7))) 0 30) ≤ 0 then (if a = 0 then (gI (sI τ 0 30 (bI (badI a 7))) 2 30, sI τ 0 30 (bI (badI a 7))) else if a = 1 then (f_M_status (sI τ 0 30 (bI (badI a 7))), sI τ 0 30 (bI (badI a 7))) else if a = 2 then (f_M_tags (sI τ 0 30 (bI (badI a 7))), sI τ 0 30 (bI (badI a 7))) else if a = 3 then (bI (if jrem (f_M_status (sI τ 0 30 (bI (badI a 7))) / 128) 2 = 1 then (if jrem (gI (sI τ 0 30 (bI (badI a 7))) 2 30 / 128) 2 = 0 then true else false) else false), sI τ 0 30 (bI (badI a 7))) else if a = 4 then (gI (sI τ 0 30 (bI (badI a 7))) 5 30, sI τ 0 30 (bI (badI a 7))) else if a = 5 then (gI (sI τ 0 30 (bI (badI a 7))) 6 30, sI τ 0 30 (bI (badI a 7))) else if a = 6 then (gI (sI τ 0 30 (bI (badI a 7))) 7 30, sI τ 0 30 (bI (badI a 7))) else (gI (sI τ 0 30 (bI (badI a 7))) 8 30, sI τ 0 30 (bI (badI a 7)))) else (0, sI τ 0 30 (bI (badI a 7)))) := rfl
theorem word_eq (τ : St) (a : Int32) : f_M_word τ a = ((if gI (sI τ 0 30 (bI (badI a 7))) 0 30 ≤ 0 then m_word (sI τ 0 30 (bI (badI a 7))) a else 0), sI τ 0 30 (bI (badI a 7))) := by
  rw [word_eq0]
  generalize sI τ 0 30 (bI (badI a 7)) = t
  unfold m_word
  by_cases c : gI t 0 30 ≤ 0
  · rw [if_pos c, if_pos c]
    by_cases a0 : a = 0
    · rw [if_pos a0, if_pos a0]
    · rw [if_neg a0, if_neg a0]
      by_cases a1 : a = 1
      · rw [if_pos a1, if_pos a1]
      · rw [if_neg a1, if_neg a1]
        by_cases a2 : a = 2
        · rw [if_pos a2, if_pos a2]
        · rw [if_neg a2, if_neg a2]
          by_cases a3 : a = 3
          · rw [if_pos a3, if_pos a3]
          · rw [if_neg a3, if_neg a3]
            by_cases a4 : a = 4
            · rw [if_pos a4, if_pos a4]
            · rw [if_neg a4, if_neg a4]
              by_cases a5 : a = 5
              · rw [if_pos a5, if_pos a5]
              · rw [if_neg a5, if_neg a5]
                by_cases a6 : a = 6
                · rw [if_pos a6, if_pos a6]
                · rw [if_neg a6, if_neg a6]
  · rw [if_neg c, if_neg c]
theorem word_J {σ τ : St} (h : Rest σ τ) (a : Int32) : gI (f_M_word τ a).2 0 30 = bI (badI a 7) ∧ Rest σ (f_M_word τ a).2 ∧ (badI a 7 = false → c_word σ a = (f_M_word τ a).1) := by
  have h' := thr_Rest h (bI (badI a 7))
  have g := self_gI τ 0 30 (bI (badI a 7))
  rw [word_eq]
  refine ⟨g, h', fun hb => ?_⟩
  rw [hb] at h' g ⊢
  obtain ⟨b, b1, b2, b3, b4⟩ := h'
  have g0 : gI (sI τ 0 30 (bI false)) 0 30 ≤ 0 := by
    rw [g]
    decide
  show c_word σ a = (if gI (sI τ 0 30 (bI false)) 0 30 ≤ 0 then m_word (sI τ 0 30 (bI false)) a else 0)
  rw [if_pos g0]
  generalize sI τ 0 30 (bI false) = t at *
  have sl := statN_lt b1
  have r1 : jrem (nI (statN b) / 128) 2 = nI (statN b / 128 % 2) := rem_M sl 128 2 (by decide) (by decide) (by decide) (by decide)
  have r2 : jrem (nI b.w / 128) 2 = nI (b.w / 128 % 2) := rem_M b1.w 128 2 (by decide) (by decide) (by decide) (by decide)
  have q1 : (nI (statN b / 128 % 2) = 1) ↔ statN b / 128 % 2 = 1 := nI_eq (b := 1) (by omega) (by decide)
  have q2 : (nI (b.w / 128 % 2) = 0) ↔ b.w / 128 % 2 = 0 := nI_eq0 (by omega)
  obtain ⟨k1, k2, k3⟩ := b4
  unfold c_word m_word
  rw [b2.w, status_C b2 b1, tags_C b2, b2.kc, b2.kp, b2.ko, b2.now, b3.w, status_M b3 b1, tags_M b3, b3.kc, b3.kp, b3.ko, b3.now, k1, k2, k3, r1, r2]
  simp only [bit128 sl, bit128 b1.w, q1, q2]
  have e3 : (if ¬ statN b / 128 % 2 = 1 then (0 : Int32) else if ¬ b.w / 128 % 2 = 1 then 1 else 0) = bI (if statN b / 128 % 2 = 1 then (if b.w / 128 % 2 = 0 then true else false) else false) := by
    by_cases z : statN b / 128 % 2 = 1
    · rw [if_neg (fun e => e z), if_pos z]
      by_cases y : b.w / 128 % 2 = 1
      · rw [if_neg (fun e => e y), if_neg (by omega)]
        rfl
      · rw [if_pos y, if_pos (by omega)]
        rfl
    · rw [if_pos z, if_neg z]
      rfl
  rw [e3]
def c_part (σ : St) (k a : Int32) : Int32 :=
  if a = 0 then f_Real_top σ (16 + jat (f_PS_place σ k)) else if a = 1 then Int64.toInt32 (jlushr (gJ σ 17 (16 + jat (f_PS_place σ k))) 32) else Int64.toInt32 (gJ σ 17 (16 + jat (f_PS_place σ k)))
def badP (k a : Int32) : Int32 := if k < 0 then 1 else if k ≤ 7 then (if a < 0 then 2 else if a ≤ 2 then 0 else 2) else 1
theorem high_u (f : Int64) : f_M_high f = Int64.toInt32 (jlushr f 32) := by
  apply Int32.toBitVec_inj.mp
  apply BitVec.eq_of_toNat_eq
  have e1 : ∀ x : Int64, (Int64.toInt32 x).toBitVec.toNat = uN x % 4294967296 := fun x => by
    show (x.toBitVec.signExtend 32).toNat = _
    rw [BitVec.signExtend_eq_setWidth_of_le _ (by decide), BitVec.toNat_setWidth]
    rfl
  unfold f_M_high
  rw [e1, e1, uN_jlushr f (y := 32) 32 rfl (by decide)]
  apply Nat.eq_of_testBit_eq
  intro i
  rw [show (4294967296 : Nat) = 2 ^ 32 from rfl, Nat.testBit_mod_two_pow, Nat.testBit_mod_two_pow, Nat.testBit_div_two_pow]
  by_cases c : i < 32
  · have e : (jlshr f 32).toBitVec = f.toBitVec.sshiftRight 32 := by
      unfold jlshr
      rw [Int64.toBitVec_shiftRight, BitVec.sshiftRight']
      rfl
    have e2 : uN (jlshr f 32) = (f.toBitVec.sshiftRight 32).toNat := by
      show (jlshr f 32).toBitVec.toNat = _
      rw [e]
    have e3 : (f.toBitVec.sshiftRight 32).toNat.testBit i = (f.toBitVec.sshiftRight 32).getLsbD i := rfl
    have c2 : 32 + i < 64 := by omega
    have c3 : ¬ 64 ≤ i := by omega
    rw [e2, e3, BitVec.getLsbD_sshiftRight]
    simp [c, c2, c3]
    rw [show i + 32 = 32 + i from Nat.add_comm i 32]
    rfl
  · simp [c]
