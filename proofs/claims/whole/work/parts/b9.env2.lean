/-! environments and registers read -/
def wdN (m : Nat → Nat) (k : Nat) : Nat := m k + 256 * m (k + 1)
theorem wdN_lt {m : Nat → Nat} (h : ∀ k, m k < 256) (k : Nat) : wdN m k < 65536 := by
  have h1 := h k
  have h2 := h (k + 1)
  unfold wdN
  omega
theorem bits2_C {σ : St} {m : Nat → Nat} (h : MB σ m) (hm : ∀ k, m k < 256) {k : Nat} {kk : Int32} (ek : kk = nI k) (hk : k ≤ 92) : uN (f_Mem_bits σ kk 2) = wdN m k := by
  have b := bits_C h hm k 2 (by decide) (by decide) (by omega)
  rw [ek]
  have e : bN m k 2 = wdN m k := by
    show m k + 256 * (m (k + 1) + 256 * 0) = _
    unfold wdN
    omega
  rw [← e]
  exact b
theorem word_C {σ : St} {m : Nat → Nat} (h : MB σ m) (hm : ∀ k, m k < 256) {k : Nat} {kk : Int32} (ek : kk = nI k) (hk : k ≤ 92) : Int64.toInt32 (f_Mem_bits σ kk 2) = nI (wdN m k) := by
  have b := bits2_C h hm ek hk
  have l := wdN_lt hm k
  rw [i32_of_l (by rw [b]; omega), b]
theorem word_M {τ : St} {m : Nat → Nat} (h : RBy τ m) {k : Nat} {kk : Int32} (ek : kk = nI k) (hk : k ≤ 92) : f_M_wordAt τ kk = nI (wdN m k) := by
  rw [ek]
  exact wordAt_M h hk
def envA (a : Ab) : Ab := (Ab.mk17 a.m a.r (fun i => decide (wdN a.m 4 / 4 ^ i % 4 = 3)) (wdN a.m 2 / 2048 % 8) (wdN a.m 0) (wdN a.m 2 % 64) ((wdN a.m 2).testBit 8) ((wdN a.m 2).testBit 9) ((wdN a.m 2).testBit 10) ((wdN a.m 2).testBit 14) (wdN a.m 8 % 2048) (wdN a.m 6 + wdN a.m 8 / 4096 * 65536) (wdN a.m 10 + wdN a.m 12 / 4096 * 65536) (wdN a.m 8 % 2048) (wdN a.m 6 + wdN a.m 8 / 4096 * 65536) (wdN a.m 10 + wdN a.m 12 / 4096 * 65536) a.now)
theorem AOK_env {K : K6} {a : Ab} (h : AOK K a) : AOK (kp6 (envA a)) (envA a) := by
  have l0 := wdN_lt h.m 0
  have l2 := wdN_lt h.m 2
  have l6 := wdN_lt h.m 6
  have l8 := wdN_lt h.m 8
  have l10 := wdN_lt h.m 10
  have l12 := wdN_lt h.m 12
  exact (AOK_mk (h.m) (h.r) (Nat.mod_lt _ (by decide)) (l0) (Nat.mod_lt _ (by decide)) (Nat.mod_lt _ (by decide)) (by show _ + _ < _; omega) (by show _ + _ < _; omega) (Nat.mod_lt _ (by decide)) (by show _ + _ < _; omega) (by show _ + _ < _; omega) (h.now) (rfl))
theorem cnd_bits {v : Nat} (hv : v < 65536) : nI v &&& 18176 = nI (cndN (v.testBit 8) (v.testBit 9) (v.testBit 10) (v.testBit 14)) := by
  have e : (18176 : Int32) = nI 18176 := rfl
  rw [e, nI_and _ _ (by omega) (by decide)]
  congr 1
  have t : ∀ (b0 b1 b2 b3 : Bool) (i : Nat), (cndN b0 b1 b2 b3).testBit i = ((decide (i = 8) && b0) || (decide (i = 9) && b1) || (decide (i = 10) && b2) || (decide (i = 14) && b3)) := by
    intro b0 b1 b2 b3 i
    by_cases hi : i < 15
    · have : ∀ (c0 c1 c2 c3 : Bool) (j : Nat), j < 15 → (cndN c0 c1 c2 c3).testBit j = ((decide (j = 8) && c0) || (decide (j = 9) && c1) || (decide (j = 10) && c2) || (decide (j = 14) && c3)) := by decide
      exact this b0 b1 b2 b3 i hi
    · have l := cnd_lt b0 b1 b2 b3
      rw [Nat.testBit_lt_two_pow (Nat.lt_of_lt_of_le l (Nat.pow_le_pow_right (n := 2) (i := 15) (by decide) (by omega)))]
      rw [decide_eq_false (show ¬ i = 8 by omega), decide_eq_false (show ¬ i = 9 by omega), decide_eq_false (show ¬ i = 10 by omega), decide_eq_false (show ¬ i = 14 by omega)]
      rfl
  apply Nat.eq_of_testBit_eq
  intro i
  rw [t, Nat.testBit_and]
  have e2 : (18176 : Nat) = cndN true true true true := rfl
  rw [e2, t]
  by_cases c8 : i = 8
  · subst c8
    simp
  · by_cases c9 : i = 9
    · subst c9
      simp
    · by_cases c10 : i = 10
      · subst c10
        simp
      · by_cases c14 : i = 14
        · subst c14
          simp
        · simp [c8, c9, c10, c14]
theorem cnd_sum {v : Nat} (hv : v < 65536) : ((jrem (nI v / 256) 2 * 256 + jrem (nI v / 512) 2 * 512) + jrem (nI v / 1024) 2 * 1024) + jrem (nI v / 16384) 2 * 16384 = nI (cndN (v.testBit 8) (v.testBit 9) (v.testBit 10) (v.testBit 14)) := by
  have a1 : jrem (nI v / 256) 2 = nI (v / 256 % 2) := rem_M hv 256 2 (by decide) (by decide) (by decide) (by decide)
  have a2 : jrem (nI v / 512) 2 = nI (v / 512 % 2) := rem_M hv 512 2 (by decide) (by decide) (by decide) (by decide)
  have a3 : jrem (nI v / 1024) 2 = nI (v / 1024 % 2) := rem_M hv 1024 2 (by decide) (by decide) (by decide) (by decide)
  have a4 : jrem (nI v / 16384) 2 = nI (v / 16384 % 2) := rem_M hv 16384 2 (by decide) (by decide) (by decide) (by decide)
  have b1 : v.testBit 8 = decide (v / 256 % 2 = 1) := ntb v 8
  have b2 : v.testBit 9 = decide (v / 512 % 2 = 1) := ntb v 9
  have b3 : v.testBit 10 = decide (v / 1024 % 2 = 1) := ntb v 10
  have b4 : v.testBit 14 = decide (v / 16384 % 2 = 1) := ntb v 14
  rw [a1, a2, a3, a4, b1, b2, b3, b4]
  rcases Nat.mod_two_eq_zero_or_one (v / 256) with z | z <;> rcases Nat.mod_two_eq_zero_or_one (v / 512) with y | y <;> rcases Nat.mod_two_eq_zero_or_one (v / 1024) with x | x <;> rcases Nat.mod_two_eq_zero_or_one (v / 16384) with u | u <;> rw [z, y, x, u] <;> decide
theorem tag_loopC {σ : St} {v : Nat} (hv : v < 65536) : ∃ s, (lpn (b_PS_readEnvironment_69 (nI v)) (upf 8 0) (0, σ)).2 = s ∧ (∀ i, i < 8 → gZ s 101 i = decide (v / 4 ^ i % 4 = 3)) ∧ (∀ k x, gI s k x = gI σ k x) ∧ (∀ k x, gJ s k x = gJ σ k x) ∧ (∀ k x, k ≠ 101 → gZ s k x = gZ σ k x) := by
  refine ⟨_, rfl, ?_⟩
  refine lpn_P (b := b_PS_readEnvironment_69 (nI v)) (fun i t => t.1 = nI i ∧ (∀ j, j < i → gZ t.2 101 j = decide (v / 4 ^ j % 4 = 3)) ∧ (∀ k x, gI t.2 k x = gI σ k x) ∧ (∀ k x, gJ t.2 k x = gJ σ k x) ∧ (∀ k x, k ≠ 101 → gZ t.2 k x = gZ σ k x)) (fun y => (∀ i, i < 8 → gZ y.2 101 i = decide (v / 4 ^ i % 4 = 3)) ∧ (∀ k x, gI y.2 k x = gI σ k x) ∧ (∀ k x, gJ y.2 k x = gJ σ k x) ∧ (∀ k x, k ≠ 101 → gZ y.2 k x = gZ σ k x)) 8 ?_ ?_ (by decide) ⟨rfl, fun j hj => by omega, fun _ _ => rfl, fun _ _ => rfl, fun _ _ _ => rfl⟩
  · intro i t hi ⟨t1, t2, t3, t4, t5⟩
    obtain ⟨x0, s⟩ := t
    simp only at t1 t2 t3 t4 t5
    subst t1
    have c1 : ¬ (8 : Int32) ≤ nI i := nI_ge (b := 8) (by omega) (by decide)
    have j : jat (nI i) = i := nI_clamp (by omega)
    have e2 : (2 : Int32) * nI i = nI (2 * i) := pk_mul 2 i
    have e3 : jshr (nI v) (nI (2 * i)) = nI (v / 2 ^ (2 * i)) := shrN (by omega) (2 * i) (sh31 (2 * i) (by omega))
    have m3 : (3 : Int32).toBitVec.toNat = 2 ^ 2 - 1 := by decide
    have l := Nat.div_le_self v (2 ^ (2 * i))
    have e4 : nI (v / 2 ^ (2 * i)) &&& 3 = nI (v / 4 ^ i % 4) := by
      rw [pk_andN (by omega) 2 m3, Nat.pow_mul]
    have e5 : (nI (v / 4 ^ i % 4) = 3) ↔ v / 4 ^ i % 4 = 3 := nI_eq (b := 3) (by omega) (by decide)
    have e6 : (if v / 4 ^ i % 4 = 3 then true else false) = decide (v / 4 ^ i % 4 = 3) := by
      by_cases q : v / 4 ^ i % 4 = 3 <;> simp [q]
    refine ⟨(nI (i + 1), sZ s 101 i (decide (v / 4 ^ i % 4 = 3))), ?_, rfl, fun x hx => ?_, t3, t4, fun k x q => ?_⟩
    · unfold b_PS_readEnvironment_69
      simp only [c1, if_false, j, e2, e3, e4, e5, e6, nI_1]
    · show gZ (sZ s 101 i _) 101 x = _
      rw [gZ_sZ, if_pos rfl]
      by_cases q : x = i
      · rw [if_pos q, q]
      · rw [if_neg q]
        exact t2 x (by omega)
    · show gZ (sZ s 101 i _) k x = _
      rw [gZ_sZ, if_neg q]
      exact t5 k x q
  · intro t ⟨t1, t2, t3, t4, t5⟩
    obtain ⟨x0, s⟩ := t
    simp only at t1 t2 t3 t4 t5
    subst t1
    have c1 : (8 : Int32) ≤ nI 8 := by decide
    refine ⟨(nI 8, s), ?_, t2, t3, t4, t5⟩
    unfold b_PS_readEnvironment_69
    simp only [c1, if_true]
theorem tag_loopM {σ : St} {v : Nat} (hv : v < 65536) : ∃ s, (lpn b_M_readEnvironment_94 (upf 8 0) (0, nI v, σ)).2.2 = s ∧ (∀ i, i < 8 → gZ s 103 i = decide (v / 4 ^ i % 4 = 3)) ∧ (∀ k x, gI s k x = gI σ k x) ∧ (∀ k x, gJ s k x = gJ σ k x) ∧ (∀ k x, k ≠ 103 → gZ s k x = gZ σ k x) := by
  refine ⟨_, rfl, ?_⟩
  refine lpn_P (b := b_M_readEnvironment_94) (fun i t => t.1 = nI i ∧ t.2.1 = nI (v / 4 ^ i) ∧ (∀ j, j < i → gZ t.2.2 103 j = decide (v / 4 ^ j % 4 = 3)) ∧ (∀ k x, gI t.2.2 k x = gI σ k x) ∧ (∀ k x, gJ t.2.2 k x = gJ σ k x) ∧ (∀ k x, k ≠ 103 → gZ t.2.2 k x = gZ σ k x)) (fun y => (∀ i, i < 8 → gZ y.2.2 103 i = decide (v / 4 ^ i % 4 = 3)) ∧ (∀ k x, gI y.2.2 k x = gI σ k x) ∧ (∀ k x, gJ y.2.2 k x = gJ σ k x) ∧ (∀ k x, k ≠ 103 → gZ y.2.2 k x = gZ σ k x)) 8 ?_ ?_ (by decide) ⟨rfl, by rw [Nat.pow_zero, Nat.div_one], fun j hj => by omega, fun _ _ => rfl, fun _ _ => rfl, fun _ _ _ => rfl⟩
  · intro i t hi ⟨t1, t0, t2, t3, t4, t5⟩
    obtain ⟨x0, y0, s⟩ := t
    simp only at t1 t0 t2 t3 t4 t5
    subst t1
    subst t0
    have c1 : ¬ (8 : Int32) ≤ nI i := nI_ge (b := 8) (by omega) (by decide)
    have j : jat (nI i) = i := nI_clamp (by omega)
    have l := Nat.div_le_self v (4 ^ i)
    have e4 : jrem (nI (v / 4 ^ i)) 4 = nI (v / 4 ^ i % 4) := pk_rem (d := 4) (by omega) (by decide) (by decide)
    have e7 : nI (v / 4 ^ i) / 4 = nI (v / 4 ^ (i + 1)) := by
      have : nI (v / 4 ^ i) / 4 = nI (v / 4 ^ i / 4) := pk_div (d := 4) (by omega) (by decide) (by decide)
      rw [this, Nat.pow_succ, Nat.div_div_eq_div_mul]
    have e5 : (nI (v / 4 ^ i % 4) = 3) ↔ v / 4 ^ i % 4 = 3 := nI_eq (b := 3) (by omega) (by decide)
    have e6 : (if v / 4 ^ i % 4 = 3 then true else false) = decide (v / 4 ^ i % 4 = 3) := by
      by_cases q : v / 4 ^ i % 4 = 3 <;> simp [q]
    refine ⟨(nI (i + 1), nI (v / 4 ^ (i + 1)), sZ s 103 i (decide (v / 4 ^ i % 4 = 3))), ?_, rfl, rfl, fun x hx => ?_, t3, t4, fun k x q => ?_⟩
    · unfold b_M_readEnvironment_94
      simp only [c1, if_false, j, e4, e5, e6, e7, nI_1]
    · show gZ (sZ s 103 i _) 103 x = _
      rw [gZ_sZ, if_pos rfl]
      by_cases q : x = i
      · rw [if_pos q, q]
      · rw [if_neg q]
        exact t2 x (by omega)
    · show gZ (sZ s 103 i _) k x = _
      rw [gZ_sZ, if_neg q]
      exact t5 k x q
  · intro t ⟨t1, t0, t2, t3, t4, t5⟩
    obtain ⟨x0, y0, s⟩ := t
    simp only at t1 t0 t2 t3 t4 t5
    subst t1
    have c1 : (8 : Int32) ≤ nI 8 := by decide
    refine ⟨(nI 8, y0, s), ?_, t2, t3, t4, t5⟩
    unfold b_M_readEnvironment_94
    simp only [c1, if_true]
theorem low_C {v k : Nat} {x : Int32} (hv : v < 2147483648) (hx : x.toBitVec.toNat = 2 ^ k - 1) : nI v &&& x = nI (v % 2 ^ k) := pk_andN (by omega) k hx
theorem rEnv_C {K : K6} {a : Ab} {σ : St} (h : RC a σ) (ha : AOK K a) : RC (envA a) (f_PS_readEnvironment σ) := by
  have hm := ha.m
  have l2 := wdN_lt hm 2
  have l4 := wdN_lt hm 4
  have l6 := wdN_lt hm 6
  have l8 := wdN_lt hm 8
  have l10 := wdN_lt hm 10
  have l12 := wdN_lt hm 12
  unfold f_PS_readEnvironment
  try dsimp only
  rw [word_C h.m hm (k := 0) (kk := 0) rfl (by decide)]
  have M1 : MB (sI σ 6 3 (nI (wdN a.m 0))) a.m := sI_mem h.m (by decide)
  rw [word_C M1 hm (k := 2) (kk := 2) rfl (by decide)]
  have t1 : nI (wdN a.m 2) &&& 63 = nI (wdN a.m 2 % 64) := low_C (k := 6) (by omega) (by decide)
  have t3a : jshr (nI (wdN a.m 2)) 11 = nI (wdN a.m 2 / 2 ^ 11) := shrN (by omega) 11 (by decide)
  have dl := Nat.div_le_self (wdN a.m 2) (2 ^ 11)
  have t3 : nI (wdN a.m 2 / 2 ^ 11) &&& 7 = nI (wdN a.m 2 / 2048 % 8) := low_C (k := 3) (by omega) (by decide)
  rw [t1, cnd_bits l2, t3a, t3]
  have M4 : MB (sI (sI (sI (sI σ 6 3 (nI (wdN a.m 0))) 1 0 (nI (wdN a.m 2 % 64))) 2 0 (nI (cndN ((wdN a.m 2).testBit 8) ((wdN a.m 2).testBit 9) ((wdN a.m 2).testBit 10) ((wdN a.m 2).testBit 14)))) 0 0 (nI (wdN a.m 2 / 2048 % 8))) a.m := sI_mem (sI_mem (sI_mem M1 (by decide)) (by decide)) (by decide)
  rw [word_C M4 hm (k := 4) (kk := 4) rfl (by decide)]
  obtain ⟨s, s1, s2, s3, s4, s5⟩ := tag_loopC (σ := sI (sI (sI (sI σ 6 3 (nI (wdN a.m 0))) 1 0 (nI (wdN a.m 2 % 64))) 2 0 (nI (cndN ((wdN a.m 2).testBit 8) ((wdN a.m 2).testBit 9) ((wdN a.m 2).testBit 10) ((wdN a.m 2).testBit 14)))) 0 0 (nI (wdN a.m 2 / 2048 % 8))) l4
  rw [s1]
  have Ms : MB s a.m := fun j hj => by rw [s3]; exact M4 j hj
  rw [word_C Ms hm (k := 8) (kk := 8) rfl (by decide)]
  have t6 : nI (wdN a.m 8) &&& 2047 = nI (wdN a.m 8 % 2048) := low_C (k := 11) (by omega) (by decide)
  rw [t6]
  have M6 : MB (sI s 3 0 (nI (wdN a.m 8 % 2048))) a.m := sI_mem Ms (by decide)
  rw [word_C M6 hm (k := 6) (kk := 6) rfl (by decide)]
  have t7a : jshr (nI (wdN a.m 8)) 12 = nI (wdN a.m 8 / 2 ^ 12) := shrN (by omega) 12 (by decide)
  have dl8 : wdN a.m 8 / 2 ^ 12 < 16 := by omega
  have t7b : jshl (nI (wdN a.m 8 / 2 ^ 12)) 16 = nI (wdN a.m 8 / 2 ^ 12 * 2 ^ 16) := pk_shlN _ 16 (by decide) (by omega)
  have t7 : nI (wdN a.m 8 / 2 ^ 12 * 2 ^ 16) ||| nI (wdN a.m 6) = nI (wdN a.m 6 + wdN a.m 8 / 4096 * 65536) := by
    rw [nI_or _ _ (by omega) (by omega), or_add (by omega)]
    exact congrArg nI (by omega)
  rw [t7a, t7b, t7]
  have M7 : MB (sI (sI s 3 0 (nI (wdN a.m 8 % 2048))) 4 0 (nI (wdN a.m 6 + wdN a.m 8 / 4096 * 65536))) a.m := sI_mem M6 (by decide)
  rw [word_C M7 hm (k := 10) (kk := 10) rfl (by decide)]
  have b12 := bits2_C M7 hm (k := 12) (kk := 12) rfl (by decide)
  have t8a : Int64.toInt32 (jlshr (f_Mem_bits (sI (sI s 3 0 (nI (wdN a.m 8 % 2048))) 4 0 (nI (wdN a.m 6 + wdN a.m 8 / 4096 * 65536))) 12 2) 12) = nI (wdN a.m 12 / 2 ^ 12) := by
    have u : uN (jlshr (f_Mem_bits (sI (sI s 3 0 (nI (wdN a.m 8 % 2048))) 4 0 (nI (wdN a.m 6 + wdN a.m 8 / 4096 * 65536))) 12 2) 12) = wdN a.m 12 / 2 ^ 12 := by
      have := uN_jlshr (x := f_Mem_bits (sI (sI s 3 0 (nI (wdN a.m 8 % 2048))) 4 0 (nI (wdN a.m 6 + wdN a.m 8 / 4096 * 65536))) 12 2) (by rw [b12]; omega) (k := 12) (by decide)
      rw [b12] at this
      exact this
    rw [i32_of_l (by rw [u]; omega), u]
  have dl12 : wdN a.m 12 / 2 ^ 12 < 16 := by omega
  have t8b : jshl (nI (wdN a.m 12 / 2 ^ 12)) 16 = nI (wdN a.m 12 / 2 ^ 12 * 2 ^ 16) := pk_shlN _ 16 (by decide) (by omega)
  have t8 : nI (wdN a.m 12 / 2 ^ 12 * 2 ^ 16) ||| nI (wdN a.m 10) = nI (wdN a.m 10 + wdN a.m 12 / 4096 * 65536) := by
    rw [nI_or _ _ (by omega) (by omega), or_add (by omega)]
    exact congrArg nI (by omega)
  rw [t8a, t8b, t8]
  refine (RC_mk (sI_mem M7 (by decide)) (fun i hi => ?_) (fun i hi => ?_) (?_) (?_) (?_) (?_) (?_) (?_) (?_) (?_))
  · obtain ⟨h1, h2, h3, h4⟩ := h.r i hi
    refine ⟨?_, ?_, ?_, h4⟩
    · show gZ s 15 (16 + i) = _
      rw [s5 15 _ (by decide)]
      exact h1
    · rw [eq_gI (by decide), eq_gI (by decide), eq_gI (by decide), s3, eq_gI (by decide), eq_gI (by decide), eq_gI (by decide), eq_gI (by decide)]
      exact h2
    · show uN (gJ s 17 (16 + i)) = _
      rw [s4]
      exact h3
  · show gZ s 101 i = _
    exact s2 i hi
  · rw [eq_gI (by decide), eq_gI (by decide), eq_gI (by decide), s3, self_gI]
    rfl
  · rw [eq_gI (by decide), eq_gI (by decide), eq_gI (by decide), s3, eq_gI (by decide), eq_gI (by decide), eq_gI (by decide), self_gI]
    rfl
  · rw [eq_gI (by decide), eq_gI (by decide), eq_gI (by decide), s3, eq_gI (by decide), eq_gI (by decide), self_gI]
    rfl
  · rw [eq_gI (by decide), eq_gI (by decide), eq_gI (by decide), s3, eq_gI (by decide), self_gI]
    rfl
  · rw [eq_gI (by decide), eq_gI (by decide), self_gI]
    rfl
  · rw [eq_gI (by decide), self_gI]
    rfl
  · rw [self_gI]
    rfl
  · rw [eq_gI (by decide), eq_gI (by decide), eq_gI (by decide), s3, eq_gI (by decide), eq_gI (by decide), eq_gI (by decide), eq_gI (by decide)]
    exact h.now
theorem sI_RBy {σ : St} {m : Nat → Nat} {k o : Nat} {v : Int32} (h : RBy σ m) (hk : k ≠ 100) : RBy (sI σ k o v) m := fun j hj => by rw [eq_gI hk]; exact h j hj
theorem rEnv_M {K : K6} {a : Ab} {τ : St} (h : RM a τ) (ha : AOK K a) : RM (envA a) (f_M_readEnvironment τ) := by
  have hm := ha.m
  have l2 := wdN_lt hm 2
  have l4 := wdN_lt hm 4
  have l6 := wdN_lt hm 6
  have l8 := wdN_lt hm 8
  have l10 := wdN_lt hm 10
  have l12 := wdN_lt hm 12
  unfold f_M_readEnvironment
  try dsimp only
  rw [word_M h.m (k := 0) (kk := 0) rfl (by decide)]
  have M1 : RBy (sI τ 2 30 (nI (wdN a.m 0))) a.m := sI_RBy h.m (by decide)
  rw [word_M M1 (k := 2) (kk := 2) rfl (by decide)]
  have t1 : jrem (nI (wdN a.m 2)) 64 = nI (wdN a.m 2 % 64) := pk_rem (d := 64) (by omega) (by decide) (by decide)
  have t3 : jrem (nI (wdN a.m 2) / 2048) 8 = nI (wdN a.m 2 / 2048 % 8) := rem_M l2 2048 8 (by decide) (by decide) (by decide) (by decide)
  rw [t1, cnd_sum l2, t3]
  have M4 : RBy (sI (sI (sI (sI τ 2 30 (nI (wdN a.m 0))) 3 30 (nI (wdN a.m 2 % 64))) 4 30 (nI (cndN ((wdN a.m 2).testBit 8) ((wdN a.m 2).testBit 9) ((wdN a.m 2).testBit 10) ((wdN a.m 2).testBit 14)))) 1 30 (nI (wdN a.m 2 / 2048 % 8))) a.m := sI_RBy (sI_RBy (sI_RBy M1 (by decide)) (by decide)) (by decide)
  rw [word_M M4 (k := 4) (kk := 4) rfl (by decide)]
  obtain ⟨s, s1, s2, s3, s4, s5⟩ := tag_loopM (σ := sI (sI (sI (sI τ 2 30 (nI (wdN a.m 0))) 3 30 (nI (wdN a.m 2 % 64))) 4 30 (nI (cndN ((wdN a.m 2).testBit 8) ((wdN a.m 2).testBit 9) ((wdN a.m 2).testBit 10) ((wdN a.m 2).testBit 14)))) 1 30 (nI (wdN a.m 2 / 2048 % 8))) l4
  rw [s1]
  have Ms : RBy s a.m := fun j hj => by rw [s3]; exact M4 j hj
  have dv : ∀ x, x < 65536 → nI x / 4096 = nI (x / 4096) := fun x hx => pk_div (d := 4096) (by omega) (by decide) (by decide)
  have mv : ∀ x, nI x * 65536 = nI (x * 65536) := fun x => pk_mul x 65536
  rw [word_M Ms (k := 6) (kk := 6) rfl (by decide), word_M Ms (k := 8) (kk := 8) rfl (by decide), dv _ l8, mv, nI_add]
  have M6 : RBy (sI s 6 30 (nI (wdN a.m 6 + wdN a.m 8 / 4096 * 65536))) a.m := sI_RBy Ms (by decide)
  rw [word_M M6 (k := 8) (kk := 8) rfl (by decide)]
  have t5 : jrem (nI (wdN a.m 8)) 2048 = nI (wdN a.m 8 % 2048) := pk_rem (d := 2048) (by omega) (by decide) (by decide)
  rw [t5]
  have M7 : RBy (sI (sI s 6 30 (nI (wdN a.m 6 + wdN a.m 8 / 4096 * 65536))) 5 30 (nI (wdN a.m 8 % 2048))) a.m := sI_RBy M6 (by decide)
  rw [word_M M7 (k := 10) (kk := 10) rfl (by decide), word_M M7 (k := 12) (kk := 12) rfl (by decide), dv _ l12, mv, nI_add]
  refine (RM_mk (sI_RBy M7 (by decide)) (fun i hi => ?_) (fun i hi => ?_) (?_) (?_) (?_) (?_) (?_) (?_) (?_) (?_) (?_))
  · obtain ⟨h1, h2, h3⟩ := h.r i hi
    refine ⟨?_, ?_, h3⟩
    · rw [eq_gI (by decide), eq_gI (by decide), eq_gI (by decide), s3, eq_gI (by decide), eq_gI (by decide), eq_gI (by decide), eq_gI (by decide)]
      exact h1
    · show uN (gJ s 102 i) = _
      rw [s4]
      exact h2
  · show gZ s 103 i = _
    exact s2 i hi
  · rw [eq_gI (by decide), eq_gI (by decide), eq_gI (by decide), s3, self_gI]
    rfl
  · rw [eq_gI (by decide), eq_gI (by decide), eq_gI (by decide), s3, eq_gI (by decide), eq_gI (by decide), eq_gI (by decide), self_gI]
    rfl
  · rw [eq_gI (by decide), eq_gI (by decide), eq_gI (by decide), s3, eq_gI (by decide), eq_gI (by decide), self_gI]
    rfl
  · rw [eq_gI (by decide), eq_gI (by decide), eq_gI (by decide), s3, eq_gI (by decide), self_gI]
    rfl
  · rw [eq_gI (by decide), self_gI]
    rfl
  · rw [eq_gI (by decide), eq_gI (by decide), self_gI]
    rfl
  · rw [self_gI]
    rfl
  · rw [eq_gI (by decide), eq_gI (by decide), eq_gI (by decide), s3, eq_gI (by decide), eq_gI (by decide), eq_gI (by decide), eq_gI (by decide)]
    exact h.now
  · refine Byt_eq (fun k => ?_) h.byt
    rw [eq_gI (by decide), eq_gI (by decide), eq_gI (by decide), s3, eq_gI (by decide), eq_gI (by decide), eq_gI (by decide), eq_gI (by decide)]
