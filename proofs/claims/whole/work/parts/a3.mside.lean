/-! the reference: reading, giving and taking, from the stack's side -/
def RBy (τ : St) (m : Nat → Nat) : Prop := ∀ k, k < 94 → gI τ 100 k = nI (m k)
theorem wordAt_M {τ : St} {m : Nat → Nat} (h : RBy τ m) {k : Nat} (hk : k ≤ 92) : f_M_wordAt τ (nI k) = nI (m k + 256 * m (k + 1)) := by
  have j1 : jat (nI k) = k := nI_clamp (by omega)
  have j2 : jat (nI k + 1) = k + 1 := by
    rw [nI_1]
    exact nI_clamp (by omega)
  have e : (256 : Int32) * nI (m (k + 1)) = nI (256 * m (k + 1)) := pk_mul 256 _
  unfold f_M_wordAt
  rw [j1, j2, h k (by omega), h (k + 1) (by omega), e, nI_add]
theorem four_M {τ : St} {m : Nat → Nat} (h : RBy τ m) (hm : ∀ k, m k < 256) {k : Nat} (hk : k ≤ 90) : (f_M_wordAt τ (nI k) + jshl (f_M_wordAt τ (nI (k + 2))) 16).toBitVec.toNat = bN m k 4 := by
  have h0 := hm k
  have h1 := hm (k + 1)
  have h2 := hm (k + 2)
  have h3 := hm (k + 3)
  have e : jshl (nI (m (k + 2) + 256 * m (k + 2 + 1))) 16 = nI ((m (k + 2) + 256 * m (k + 2 + 1)) * 2 ^ 16) := pk_shlN _ 16 (by decide) (by
    rw [show k + 2 + 1 = k + 3 by omega]
    omega)
  rw [wordAt_M h (by omega), wordAt_M h (by omega), e, nI_add, show k + 2 + 1 = k + 3 by omega, pk_tn (by omega)]
  simp only [bN, show k + 1 + 1 = k + 2 by omega, show k + 2 + 1 = k + 3 by omega]
  omega
theorem shr_byte (x : Int32) {k : Nat} (hk : k ≤ 24) : jshr x (nI k) &&& 255 = nI (x.toBitVec.toNat / 2 ^ k % 256) := by
  rw [pk_and _ 8 m255]
  congr 1
  have e : (jshr x (nI k)).toBitVec = x.toBitVec.sshiftRight k := by
    unfold jshr
    rw [Int32.toBitVec_shiftRight, BitVec.sshiftRight', sh31 k (by omega)]
  apply Nat.eq_of_testBit_eq
  intro i
  rw [e, show (256 : Nat) = 2 ^ 8 from rfl, Nat.testBit_mod_two_pow, Nat.testBit_mod_two_pow, Nat.testBit_div_two_pow]
  by_cases c : i < 8
  · have e2 : (x.toBitVec.sshiftRight k).toNat.testBit i = (x.toBitVec.sshiftRight k).getLsbD i := rfl
    have c2 : k + i < 32 := by omega
    have c3 : ¬ 32 ≤ i := by omega
    rw [e2, BitVec.getLsbD_sshiftRight]
    simp [c, c2, c3]
    rw [show i + k = k + i from Nat.add_comm i k]
    rfl
  · simp [c]
def frD (τ ρ : St) : Prop := ∀ k x, ¬ (37 ≤ k ∧ k ≤ 44) → ¬ (112 ≤ k ∧ k ≤ 114) → gI ρ k x = gI τ k x ∧ gJ ρ k x = gJ τ k x ∧ gZ ρ k x = gZ τ k x
theorem frD_refl (τ : St) : frD τ τ := fun _ _ _ _ => ⟨rfl, rfl, rfl⟩
theorem frD_trans {τ ρ σ : St} (h : frD τ ρ) (g : frD ρ σ) : frD τ σ := fun k x a b => ⟨(g k x a b).1.trans (h k x a b).1, (g k x a b).2.1.trans (h k x a b).2.1, (g k x a b).2.2.trans (h k x a b).2.2⟩
theorem frD_C {τ ρ : St} (h : frC τ ρ) : frD τ ρ := fun k x a b => h k x a (by omega)
theorem frD_114 {τ ρ : St} (h : fr114 τ ρ) : frD τ ρ := fun k x _ b => ⟨h.1 k x (by omega), h.2.1 k x, h.2.2 k x⟩
theorem BA_C {τ ρ : St} {β : Nat → Bool} (h : BA τ β) (f : frC τ ρ) : BA ρ β := fun k hk => by
  rw [(f 114 k (by decide) (by decide)).1]
  exact h k hk
theorem Byt_BA {τ : St} {β : Nat → Bool} (h : BA τ β) : Byt τ := fun k hk => ⟨_, by8_lt _, h k hk⟩
theorem BA_Byt {τ : St} (h : Byt τ) : ∃ β, BA τ β := by
  have key : ∀ k, ∃ n : Nat, k < 10 → n < 256 ∧ gI τ 114 k = nI n := fun k => by
    by_cases c : k < 10
    · obtain ⟨n, h1, h2⟩ := h k c
      exact ⟨n, fun _ => ⟨h1, h2⟩⟩
    · exact ⟨0, fun q => absurd q c⟩
  refine ⟨fun x => (Classical.choose (key (x / 8))).testBit (x % 8), fun k hk => ?_⟩
  obtain ⟨n1, n2⟩ := Classical.choose_spec (key k) hk
  rw [n2]
  congr 1
  have e : by8 (fun j => (Classical.choose (key ((8 * k + j) / 8))).testBit ((8 * k + j) % 8)) = by8 (fun j => (Classical.choose (key k)).testBit j) := by
    apply by8_congr
    intro j hj
    have e1 : (8 * k + j) / 8 = k := by omega
    have e2 : (8 * k + j) % 8 = j := by omega
    rw [e1, e2]
  rw [e]
  exact (by8_self _ n1).symm
theorem memory_B {τ : St} {m : Nat → Nat} {v1 v2 v3 : Int32} (hm : ∀ k, m k < 256) (h1 : v1.toBitVec.toNat = bN m 0 4) (h2 : v2.toBitVec.toNat = bN m 4 4) (h3 : v3.toBitVec.toNat = bN m 8 2) : BA (f_MC_memory τ v1 v2 v3) (bN m 0 10).testBit ∧ frD τ (f_MC_memory τ v1 v2 v3) ∧ gI (f_MC_memory τ v1 v2 v3) 38 45 = gI τ 38 45 := by
  unfold f_MC_memory
  have key : (∀ k, k < 10 → gI (lpn (b_MC_memory_8 v1 v2 v3) (upf 10 0) (0, sI τ 37 45 0)).2 114 k = nI (m k)) ∧ fr114 (sI τ 37 45 0) (lpn (b_MC_memory_8 v1 v2 v3) (upf 10 0) (0, sI τ 37 45 0)).2 := by
    refine lpn_P (b := b_MC_memory_8 v1 v2 v3) (fun i t => t.1 = nI i ∧ (∀ k, k < i → gI t.2 114 k = nI (m k)) ∧ fr114 (sI τ 37 45 0) t.2) (fun y => (∀ k, k < 10 → gI y.2 114 k = nI (m k)) ∧ fr114 (sI τ 37 45 0) y.2) 10 ?_ ?_ ?_ ?_
    · intro i t hi ⟨t1, t2, t3⟩
      obtain ⟨a, s⟩ := t
      simp only at t1 t2 t3
      subst t1
      have c1 : ¬ (10 : Int32) ≤ nI i := nI_ge (b := 10) (by omega) (by decide)
      have c4 : ((4 : Int32) ≤ nI i) ↔ 4 ≤ i := nI_leI (a := 4) (by decide) (by omega)
      have c8 : ((8 : Int32) ≤ nI i) ↔ 8 ≤ i := nI_leI (a := 8) (by decide) (by omega)
      have jq : jat (nI i) = i := nI_clamp (by omega)
      have t3' : (if (4 : Int32) ≤ nI i then if (8 : Int32) ≤ nI i then jshr v3 (8 * (nI i - 8)) else jshr v2 (8 * (nI i - 4)) else jshr v1 (8 * nI i)) &&& 255 = nI (m i) := by
        simp only [c4, c8]
        by_cases d4 : 4 ≤ i
        · rw [if_pos d4]
          by_cases d8 : 8 ≤ i
          · rw [if_pos d8]
            have e1 : nI i - 8 = nI (i - 8) := pk_sub (b := 8) d8
            have e2 : (8 : Int32) * nI (i - 8) = nI (8 * (i - 8)) := pk_mul 8 _
            have e3 := bN_byte hm 2 8 (i - 8) (by omega)
            rw [p256, show 8 + (i - 8) = i by omega] at e3
            rw [e1, e2, shr_byte _ (by omega), h3, e3]
          · rw [if_neg d8]
            have e1 : nI i - 4 = nI (i - 4) := pk_sub (b := 4) d4
            have e2 : (8 : Int32) * nI (i - 4) = nI (8 * (i - 4)) := pk_mul 8 _
            have e3 := bN_byte hm 4 4 (i - 4) (by omega)
            rw [p256, show 4 + (i - 4) = i by omega] at e3
            rw [e1, e2, shr_byte _ (by omega), h2, e3]
        · rw [if_neg d4]
          have e2 : (8 : Int32) * nI i = nI (8 * i) := pk_mul 8 _
          have e3 := bN_byte hm 4 0 i (by omega)
          rw [p256, Nat.zero_add] at e3
          rw [e2, shr_byte _ (by omega), h1, e3]
      refine ⟨(nI (i + 1), sI s 114 i (nI (m i))), ?_, rfl, ?_, fr114_trans t3 (fr114_I _ _ _)⟩
      · unfold b_MC_memory_8
        simp only [c1, if_false, t3', jq, nI_1]
      · intro k hk
        show gI (sI s 114 i (nI (m i))) 114 k = _
        rw [gI_sI, if_pos rfl]
        by_cases q : k = i
        · rw [if_pos q, q]
        · rw [if_neg q]
          exact t2 k (by omega)
    · intro t ⟨t1, t2, t3⟩
      obtain ⟨a, s⟩ := t
      simp only at t1 t2 t3
      subst t1
      refine ⟨(nI 10, s), ?_, t2, t3⟩
      have c1 : (10 : Int32) ≤ nI 10 := by decide
      unfold b_MC_memory_8
      simp only [c1, if_true]
    · decide
    · exact ⟨rfl, fun k hk => by omega, fr114_refl _⟩
  obtain ⟨k1, k2⟩ := key
  refine ⟨fun k hk => ?_, frD_trans (frD_C (frC_I _ 37 _ _ (by decide))) (frD_114 k2), ?_⟩
  · have e := bN_byte hm 10 0 k hk
    rw [Nat.zero_add] at e
    rw [by8_N, e]
    exact k1 k hk
  · rw [k2.1 38 45 (by decide), gI_sI, if_neg (by decide)]
theorem Ccontrol {τ : St} {w : Nat} (hw : w < 65536) : f_MC_control τ (nI w) = sI (sI τ 37 45 0) 38 45 (nI w) := by
  have c1 : ¬ nI w < 0 := nI_pos (by omega)
  have c2 : nI w ≤ 65535 := nI_le (b := 65535) (by omega) (by decide)
  unfold f_MC_control
  have e : bI false = (0 : Int32) := rfl
  have g : gI (sI τ 37 45 0) 37 45 = 0 := by simp [gI_sI]
  simp only [c1, c2, if_false, if_true, e, g]
theorem Cpart {τ : St} (a : Nat) (ha : a < 3) : f_MC_part τ 0 (nI a) = ((if a = 0 then gI τ 112 0 else if a = 1 then f_M_high (gJ τ 113 0) else Int64.toInt32 (gJ τ 113 0)), sI τ 37 45 0) := by
  have c0 : f_MC_none 0 = false := by decide
  have j2 : jat 0 = 0 := by decide
  have g : gI (sI τ 37 45 0) 37 45 ≤ 0 := by
    rw [gI_sI, if_pos rfl, if_pos rfl]
    decide
  have c1 : ¬ nI a < 0 := nI_pos (by omega)
  have c2 : nI a ≤ 2 := nI_le (b := 2) (by omega) (by decide)
  have c3 : (nI a = 0) ↔ a = 0 := nI_eq0 (by omega)
  have c4 : (nI a = 1) ↔ a = 1 := nI_eq (b := 1) (by omega) (by decide)
  unfold f_MC_part
  simp only [c0, Bool.false_eq_true, if_false, c1, c2, if_true, g, j2, c3, c4]
  rfl
theorem frX_C {τ ρ : St} (h : frC τ ρ) : frX τ ρ := ⟨fun k x a => h k x (by omega) (by omega), Byt_eq (fun k => (h 114 k (by decide) (by decide)).1)⟩
theorem frX_D {τ ρ : St} (h : frD τ ρ) (b : Byt ρ) : frX τ ρ := ⟨fun k x a => h k x (by omega) (by omega), fun _ => b⟩
theorem readIn_M {τ : St} {w fm : Nat} {m : Nat → Nat} (h : RBy τ m) (hm : ∀ k, m k < 256) (hfm : fm ≤ 6) (hc : gI τ 2 30 = nI w) (hw : w < 65536) : XOut τ (f_M_read τ (nI fm)) w (readS fm (bN m 0 10)) := by
  unfold f_M_read
  have v1 := four_M h hm (k := 0) (by decide)
  have v2 := four_M h hm (k := 4) (by decide)
  rw [hc, Ccontrol hw]
  have f1 : frC τ (sI (sI τ 37 45 0) 38 45 (nI w)) := frC_trans (frC_I _ 37 _ _ (by decide)) (frC_I _ 38 _ _ (by decide))
  have h1 : RBy (sI (sI τ 37 45 0) 38 45 (nI w)) m := h
  have w1 : gI (sI (sI τ 37 45 0) 38 45 (nI w)) 38 45 = nI w := by simp [gI_sI]
  have v3 : (f_M_wordAt (sI (sI τ 37 45 0) 38 45 (nI w)) 8).toBitVec.toNat = bN m 8 2 := by
    have h8 := hm 8
    have h9 := hm (8 + 1)
    rw [show (8 : Int32) = nI 8 from rfl, wordAt_M h1 (by decide), pk_tn (by omega)]
    simp [bN]
  dsimp only
  generalize sI (sI τ 37 45 0) 38 45 (nI w) = s1 at *
  obtain ⟨b1, b2, b3⟩ := memory_B (τ := s1) hm v1 v2 v3
  have e2 : f_M_wordAt τ 0 + jshl (f_M_wordAt τ 2) 16 = f_M_wordAt τ (nI 0) + jshl (f_M_wordAt τ (nI (0 + 2))) 16 := rfl
  have e3 : f_M_wordAt τ 4 + jshl (f_M_wordAt τ 6) 16 = f_M_wordAt τ (nI 4) + jshl (f_M_wordAt τ (nI (4 + 2))) 16 := rfl
  rw [e2, e3]
  rw [w1] at b3
  generalize f_MC_memory s1 (f_M_wordAt τ (nI 0) + jshl (f_M_wordAt τ (nI (0 + 2))) 16) (f_M_wordAt τ (nI 4) + jshl (f_M_wordAt τ (nI (4 + 2))) 16) (f_M_wordAt s1 8) = s2 at *
  obtain ⟨r1, r2, r3, r4⟩ := read_B (fm := fm) hfm b1 b3 hw
  have fr := frD_trans (frD_C f1) (frD_trans b2 (frD_C r2))
  have by3 := Byt_BA (BA_C b1 r2)
  rw [r1]
  have c2 : gI (f_MC_read s2 (nI fm) 0).2 2 30 = nI w := by rw [(fr 2 30 (by decide) (by decide)).1]; exact hc
  generalize (f_MC_read s2 (nI fm) 0).2 = s3 at *
  rw [say_M c2 hw r3]
  generalize readS fm (bN m 0 10) = R at *
  have q0 : ∀ s, f_MC_part s 0 0 = (gI s 112 0, sI s 37 45 0) := fun s => Cpart 0 (by decide)
  have q1 : ∀ s, f_MC_part s 0 1 = (f_M_high (gJ s 113 0), sI s 37 45 0) := fun s => Cpart 1 (by decide)
  have q2 : ∀ s, f_MC_part s 0 2 = (Int64.toInt32 (gJ s 113 0), sI s 37 45 0) := fun s => Cpart 2 (by decide)
  simp only [q0, q1, q2]
  have ff := frX_D fr by3
  have g8 : gI s3 8 30 = gI τ 8 30 := (fr 8 30 (by decide) (by decide)).1
  have g9 : gZ s3 9 30 = gZ τ 9 30 := (fr 9 30 (by decide) (by decide)).2.2
  rw [g8, g9]
  have hal : ∀ s : St, jlshl (Int32.toInt64 (f_M_high (gJ s 113 0))) 32 ||| (Int32.toInt64 (Int64.toInt32 (gJ (sI s 37 45 0) 113 0)) &&& 4294967295) = gJ s 113 0 := fun s => halves (gJ s 113 0)
  rw [hal]
  refine ⟨?_, ?_, r3, ?_, fun q => ?_⟩
  · refine frX_trans ff (frX_trans (frX_I _ 8 30 _ (by decide)) (frX_trans (frX_Z _ 9 30 _ (by decide)) (frX_trans (frX_I _ 37 45 _ (by decide)) (frX_trans (frX_I _ 13 30 _ (by decide)) (frX_trans (frX_I _ 37 45 _ (by decide)) (frX_trans (frX_I _ 37 45 _ (by decide)) (frX_J _ 14 30 _ (by decide))))))))
  · simp [gI_sI, gI_sJ, gI_sZ]
  · simp [gZ_sI, gZ_sJ, gZ_sZ]
  · obtain ⟨p, p1, p2, p3⟩ := r4 q
    refine ⟨p, ?_, p2, ?_⟩
    · simp only [gI_sI, gI_sJ, gI_sZ]
      simp
      exact p1
    · simp only [gJ_sI, gJ_sJ, gJ_sZ]
      simp
      exact p3
theorem halves2 (f : Int64) : Int32.toInt64 (f_M_high f) * 4294967296 + (Int32.toInt64 (Int64.toInt32 f) &&& 4294967295) = f := by
  have h := congrArg uN (halves f)
  rw [uN_orr, uN_jlshl _ (y := 32) 32 rfl (by decide)] at h
  apply uN_inj
  have e0 : uN 4294967296 = 4294967296 := rfl
  rw [uN_add, uN_mul, e0]
  have b : uN (Int32.toInt64 (Int64.toInt32 f) &&& 4294967295) < 2 ^ 32 := by
    rw [uN_lo]
    omega
  generalize uN (Int32.toInt64 (Int64.toInt32 f) &&& 4294967295) = y at *
  generalize uN (Int32.toInt64 (f_M_high f)) = x at *
  have e : x * 2 ^ 32 % 18446744073709551616 = (x % 4294967296) * 2 ^ 32 := by omega
  rw [e, or_add b] at h
  omega
theorem Scontrol {τ : St} {w : Nat} (hw : w < 65536) : f_MS_control τ (nI w) = sI (sI τ 26 42 0) 27 42 (nI w) := by
  have c1 : ¬ nI w < 0 := nI_pos (by omega)
  have c2 : nI w ≤ 65535 := nI_le (b := 65535) (by omega) (by decide)
  unfold f_MS_control
  have e : bI false = (0 : Int32) := rfl
  have g : gI (sI τ 26 42 0) 26 42 = 0 := by simp [gI_sI]
  simp only [c1, c2, if_false, if_true, e, g]
theorem Sset {τ : St} {r t : Nat} (hr : r < 8) (ht : t < 65536) (f : Int64) : f_MS_set τ (nI r) (nI t) (f_M_high f) (Int64.toInt32 f) = sJ (sI (sI τ 26 42 0) 110 r (nI t)) 111 r f := by
  have c0 : f_MS_none (nI r) = false := none_S r hr
  have c1 : ¬ nI t < 0 := nI_pos (by omega)
  have c2 : nI t ≤ 65535 := nI_le (b := 65535) (by omega) (by decide)
  have g : gI (sI τ 26 42 0) 26 42 ≤ 0 := by
    rw [gI_sI, if_pos rfl, if_pos rfl]
    decide
  unfold f_MS_set
  simp only [c0, Bool.false_eq_true, if_false, c1, c2, if_true, g, jat_nI (show r < 2 ^ 31 by omega), halves2]
/-- a number given to the steps -/
theorem give_M {τ : St} {r w : Nat} {A : Re} {f : Int64} (hr : r < 8) (hc : gI τ 2 30 = nI w) (hw : w < 65536) (hA : uN f = A.2.2) (pA : A.2.1 ≤ 32767) : frM τ (f_M_giveSteps τ (nI r) (nI (topN A)) f) ∧ gI (f_M_giveSteps τ (nI r) (nI (topN A)) f) 27 42 = nI w ∧ RegIs (f_M_giveSteps τ (nI r) (nI (topN A)) f) 110 111 r A ∧ ∀ i B, i ≠ r → RegIs τ 110 111 i B → RegIs (f_M_giveSteps τ (nI r) (nI (topN A)) f) 110 111 i B := by
  unfold f_M_giveSteps
  rw [hc, Scontrol hw]
  dsimp only
  rw [Sset hr (topN_lt pA)]
  refine ⟨frM_trans (frM_I _ 26 _ _ (by decide)) (frM_trans (frM_I _ 27 _ _ (by decide)) (frM_trans (frM_I _ 26 _ _ (by decide)) (frM_trans (frM_I _ 110 _ _ (by decide)) (frM_J _ 111 _ _ (by decide))))), ?_, ⟨?_, ?_, pA⟩, fun i B hi hB => ⟨?_, ?_, hB.2.2⟩⟩
  · simp [gI_sI, gI_sJ]
  · simp [gI_sI, gI_sJ]
  · rw [gJ_sJ, if_pos rfl, if_pos rfl]
    exact hA
  · simp only [gI_sI, gI_sJ]
    simp [hi]
    exact hB.1
  · simp only [gJ_sI, gJ_sJ]
    simp [hi]
    exact hB.2.1
theorem frX_M {τ ρ : St} (h : frM τ ρ) : frX τ ρ := ⟨fun k x a => h k x (by omega) (by omega) (by omega), Byt_eq (fun k => (h 114 k (by decide) (by decide) (by decide)).1)⟩
theorem Spart {τ : St} {r : Nat} (hr : r < 8) (a : Nat) (ha : a < 3) : f_MS_part τ (nI r) (nI a) = ((if a = 0 then gI τ 110 r else if a = 1 then f_M_high (gJ τ 111 r) else Int64.toInt32 (gJ τ 111 r)), sI τ 26 42 0) := by
  have c0 : f_MS_none (nI r) = false := none_S r hr
  have j2 : jat (nI r) = r := nI_clamp (by omega)
  have g : gI (sI τ 26 42 0) 26 42 ≤ 0 := by
    rw [gI_sI, if_pos rfl, if_pos rfl]
    decide
  have c1 : ¬ nI a < 0 := nI_pos (by omega)
  have c2 : nI a ≤ 2 := nI_le (b := 2) (by omega) (by decide)
  have c3 : (nI a = 0) ↔ a = 0 := nI_eq0 (by omega)
  have c4 : (nI a = 1) ↔ a = 1 := nI_eq (b := 1) (by omega) (by decide)
  unfold f_MS_part
  simp only [c0, Bool.false_eq_true, if_false, c1, c2, if_true, g, j2, c3, c4]
  rfl
/-- a number taken from the steps -/
theorem from_M {τ : St} {r : Nat} (hr : r < 8) : gI (f_M_fromSteps τ (nI r)) 13 30 = gI τ 110 r ∧ gJ (f_M_fromSteps τ (nI r)) 14 30 = gJ τ 111 r ∧ (∀ k x, k ≠ 26 → ¬ (k = 13 ∧ x = 30) → gI (f_M_fromSteps τ (nI r)) k x = gI τ k x) ∧ (∀ k x, ¬ (k = 14 ∧ x = 30) → gJ (f_M_fromSteps τ (nI r)) k x = gJ τ k x) ∧ (∀ k x, gZ (f_M_fromSteps τ (nI r)) k x = gZ τ k x) := by
  have q0 : ∀ s, f_MS_part s (nI r) 0 = (gI s 110 r, sI s 26 42 0) := fun s => Spart hr 0 (by decide)
  have q1 : ∀ s, f_MS_part s (nI r) 1 = (f_M_high (gJ s 111 r), sI s 26 42 0) := fun s => Spart hr 1 (by decide)
  have q2 : ∀ s, f_MS_part s (nI r) 2 = (Int64.toInt32 (gJ s 111 r), sI s 26 42 0) := fun s => Spart hr 2 (by decide)
  unfold f_M_fromSteps
  simp only [q0, q1, q2]
  have hal : ∀ s : St, jlshl (Int32.toInt64 (f_M_high (gJ s 111 r))) 32 ||| (Int32.toInt64 (Int64.toInt32 (gJ (sI s 26 42 0) 111 r)) &&& 4294967295) = gJ s 111 r := fun s => halves (gJ s 111 r)
  rw [hal]
  refine ⟨?_, ?_, fun k x a b => ?_, fun k x a => ?_, fun k x => rfl⟩
  · simp [gI_sI, gI_sJ]
  · simp [gJ_sI, gJ_sJ]
  · simp only [gI_sI, gI_sJ]
    simp [a]
    intro e1 e2
    exact absurd ⟨e1, e2⟩ b
  · simp only [gJ_sI, gJ_sJ]
    by_cases e1 : k = 14
    · rw [if_pos e1, if_neg (fun e2 => a ⟨e1, e2⟩)]
    · rw [if_neg e1]
