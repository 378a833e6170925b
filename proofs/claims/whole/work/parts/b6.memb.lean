/-! stores -/
theorem RC_Y {a : Ab} {σ τ : St} {n : Nat} {m : Nat → Nat} (h : RC a σ) (f : frY σ τ) (hn : gI τ 7 3 = nI n) (hM : MB τ m) : RC (Ab.mk17 (m) a.r a.e a.top a.w a.told a.c0 a.c1 a.c2 a.c3 a.kc a.kp a.ko a.lc a.lp a.lo (n)) τ := RC_mk
  (hM)
  (fun i hi => by
    obtain ⟨h1, h2, h3, h4⟩ := h.r i hi
    exact ⟨by rw [f.2.2 15 _ (by decide) (by decide)]; exact h1, by rw [f.1 16 _ (by decide) (by decide) (by decide)]; exact h2, by rw [f.2.1 17 _ (by decide) (by decide) (by decide) (by decide)]; exact h3, h4⟩)
  (fun i hi => by rw [f.2.2 101 i (by decide) (by decide)]; exact h.e i hi)
  (by rw [f.1 0 0 (by decide) (by decide) (by decide)]; exact h.top)
  (by rw [f.1 6 3 (by decide) (by decide) (by decide)]; exact h.w)
  (by rw [f.1 1 0 (by decide) (by decide) (by decide)]; exact h.told)
  (by rw [f.1 2 0 (by decide) (by decide) (by decide)]; exact h.c)
  (by rw [f.1 3 0 (by decide) (by decide) (by decide)]; exact h.kc)
  (by rw [f.1 4 0 (by decide) (by decide) (by decide)]; exact h.kp)
  (by rw [f.1 5 0 (by decide) (by decide) (by decide)]; exact h.ko)
  (hn)
theorem decB_lt (Kn : Nat) (mi : Bool) (k : Nat) : decB Kn mi k < 256 := by
  unfold decB
  split
  · have a1 : Kn / 10 ^ (2 * k) % 10 < 10 := Nat.mod_lt _ (by decide)
    have a2 : Kn / 10 ^ (2 * k + 1) % 10 < 10 := Nat.mod_lt _ (by decide)
    omega
  · split <;> decide
set_option maxHeartbeats 300000 in
theorem writeS_lt {w fm : Nat} {A : Re} (hfm : fm ≤ 6) (k : Nat) : (writeS w fm A).2.2 k < 256 ∧ (writeS w fm A).2.1 ≤ 10 ∧ f_M_bytesOf (nI fm) = nI (writeS w fm A).2.1 := by
  rcases (show fm = 0 ∨ fm = 1 ∨ fm = 2 ∨ fm = 3 ∨ fm = 4 ∨ fm = 5 ∨ fm = 6 by omega) with rfl | rfl | rfl | rfl | rfl | rfl | rfl
  · rw [ws0]
    exact ⟨Nat.mod_lt _ (by decide), (show 2 ≤ 10 by decide), (show f_M_bytesOf (nI 0) = nI 2 by decide)⟩
  · rw [ws1]
    exact ⟨Nat.mod_lt _ (by decide), (show 4 ≤ 10 by decide), (show f_M_bytesOf (nI 1) = nI 4 by decide)⟩
  · rw [ws2]
    exact ⟨Nat.mod_lt _ (by decide), (show 8 ≤ 10 by decide), (show f_M_bytesOf (nI 2) = nI 8 by decide)⟩
  · rw [ws3]
    exact ⟨Nat.mod_lt _ (by decide), (show 4 ≤ 10 by decide), (show f_M_bytesOf (nI 3) = nI 4 by decide)⟩
  · rw [ws4]
    exact ⟨Nat.mod_lt _ (by decide), (show 8 ≤ 10 by decide), (show f_M_bytesOf (nI 4) = nI 8 by decide)⟩
  · rw [ws5]
    refine ⟨?_, (show 10 ≤ 10 by decide), (show f_M_bytesOf (nI 5) = nI 10 by decide)⟩
    unfold decW
    show (if wBig A = false ∧ wK 4 A < 1000000000000000000 then _ else _ : Nat × (Nat → Nat)).2 k < 256
    split
    · exact decB_lt _ _ _
    · exact badB_lt _
  · rw [ws6]
    exact ⟨Nat.mod_lt _ (by decide), (show 10 ≤ 10 by decide), (show f_M_bytesOf (nI 6) = nI 10 by decide)⟩
set_option maxHeartbeats 300000 in
theorem Cset {τ : St} {t : Nat} (ht : t < 65536) (f : Int64) : f_MC_set τ 0 (nI t) (f_M_high f) (Int64.toInt32 f) = sJ (sI (sI τ 37 45 0) 112 0 (nI t)) 113 0 f := by
  have c0 : f_MC_none 0 = false := by decide
  have j0 : jat 0 = 0 := by decide
  have c1 : ¬ nI t < 0 := nI_pos (by omega)
  have c2 : nI t ≤ 65535 := nI_le (b := 65535) (by omega) (by decide)
  have g : gI (sI τ 37 45 0) 37 45 ≤ 0 := by
    rw [self_gI]
    decide
  unfold f_MC_set
  try dsimp only
  simp only [c0, Bool.false_eq_true, if_false, c1, c2, if_true, g, j0, halves]
theorem byteAt_B {τ : St} {k : Nat} (hk : k < 10) : f_MC_byteAt τ (nI k) = (gI τ 114 k, sI τ 37 45 0) := by
  have c1 : ¬ nI k < 0 := nI_pos (by omega)
  have c2 : nI k ≤ 9 := nI_le (b := 9) (by omega) (by decide)
  have e : bI false = (0 : Int32) := rfl
  have g : gI (sI τ 37 45 0) 37 45 ≤ 0 := by
    rw [self_gI]
    decide
  have j : jat (nI k) = k := nI_clamp (by omega)
  unfold f_MC_byteAt
  try dsimp only
  rw [if_neg c1, if_pos c2, e, if_pos g, j, eq_gI (by decide)]
def frQ (τ ρ : St) : Prop := (∀ k x, k ≠ 37 → k ≠ 100 → gI ρ k x = gI τ k x) ∧ (∀ k x, gJ ρ k x = gJ τ k x) ∧ (∀ k x, gZ ρ k x = gZ τ k x)
set_option maxHeartbeats 300000 in
theorem copy_loop {τ : St} {n fm : Nat} {m bs : Nat → Nat} (hn : f_M_bytesOf (nI fm) = nI n) (hn10 : n ≤ 10) (hB : ∀ k, k < n → gI τ 114 k = nI (bs k)) (hm : RBy τ m) : frQ τ (lpn (b_M_write_138 (nI fm)) (upf (f_M_bytesOf (nI fm)) 0) (0, τ)).2 ∧ RBy (lpn (b_M_write_138 (nI fm)) (upf (f_M_bytesOf (nI fm)) 0) (0, τ)).2 (newB m n bs) := by
  refine lpn_P (b := b_M_write_138 (nI fm)) (fun i t => t.1 = nI i ∧ frQ τ t.2 ∧ RBy t.2 (newB m i bs)) (fun y => frQ τ y.2 ∧ RBy y.2 (newB m n bs)) n ?_ ?_ ?_ ?_
  · intro i t hi ⟨t1, t2, t3⟩
    obtain ⟨v, s⟩ := t
    simp only at t1 t2 t3
    subst t1
    have c1 : ¬ nI n ≤ nI i := nI_ge (by omega) (by omega)
    have j : jat (nI i) = i := nI_clamp (by omega)
    have g : gI s 114 i = nI (bs i) := by rw [t2.1 114 i (by decide) (by decide)]; exact hB i hi
    refine ⟨(nI (i + 1), sI (sI s 37 45 0) 100 i (nI (bs i))), ?_, rfl, ?_, fun k hk => ?_⟩
    · unfold b_M_write_138
      rw [hn]
      simp only [c1, if_false, byteAt_B (show i < 10 by omega), g, j, nI_1]
    · refine ⟨fun k x a b => ?_, fun k x => t2.2.1 k x, fun k x => t2.2.2 k x⟩
      rw [eq_gI (fun e => b e.symm), eq_gI (fun e => a e.symm)]
      exact t2.1 k x a b
    · show gI (sI (sI s 37 45 0) 100 i (nI (bs i))) 100 k = nI (newB m (i + 1) bs k)
      rw [gI_sI, if_pos rfl]
      unfold newB
      by_cases q : k = i
      · rw [if_pos q, if_pos (by omega), q]
      · rw [if_neg q, eq_gI (by decide)]
        have := t3 k hk
        unfold newB at this
        rw [this]
        by_cases z : k < i
        · rw [if_pos z, if_pos (by omega)]
        · rw [if_neg z, if_neg (by omega)]
  · intro t ⟨t1, t2, t3⟩
    obtain ⟨v, s⟩ := t
    simp only at t1 t2 t3
    subst t1
    have c1 : nI n ≤ nI n := nI_le (by omega) (by omega)
    refine ⟨(nI n, s), ?_, t2, t3⟩
    unfold b_M_write_138
    rw [hn]
    simp only [c1, if_true]
  · rw [hn]
    unfold upf
    rw [nI_toInt (by omega)]
    show n < ((n : Int) - 0).toNat + 1
    omega
  · refine ⟨rfl, ⟨fun _ _ _ _ => rfl, fun _ _ => rfl, fun _ _ => rfl⟩, fun k hk => ?_⟩
    show gI τ 100 k = nI (newB m 0 bs k)
    unfold newB
    rw [if_neg (by omega)]
    exact hm k hk
set_option maxHeartbeats 300000 in
theorem over_t1 {w T : Nat} (hw : w < 65536) (hT : T < 64) {s5 : St} {r1 : Int32 × St} (h2 : gI s5 2 30 = nI w) (hr : r1.1 = nI T) (h9 : gZ s5 9 30 = endsN w T) : (if gZ s5 9 30 = true then true else if jrem (r1.1 / 8) 2 = 1 then (if jrem (gI s5 2 30 / 8) 2 = 0 then true else f_M_write_b98 r1 s5) else f_M_write_b98 r1 s5) = endsW w T := by
  have a1 : jrem (nI T / 8) 2 = nI (T / 8 % 2) := rem_M (w := T) (by omega) 8 2 (by decide) (by decide) (by decide) (by decide)
  have a2 : jrem (nI T / 16) 2 = nI (T / 16 % 2) := rem_M (w := T) (by omega) 16 2 (by decide) (by decide) (by decide) (by decide)
  have a3 : jrem (nI w / 8) 2 = nI (w / 8 % 2) := rem_M hw 8 2 (by decide) (by decide) (by decide) (by decide)
  have a4 : jrem (nI w / 16) 2 = nI (w / 16 % 2) := rem_M hw 16 2 (by decide) (by decide) (by decide) (by decide)
  have b1 : ∀ n, n < 2 → ((nI n = 1) ↔ n = 1) ∧ ((nI n = 0) ↔ n = 0) := fun n hn => ⟨nI_eq (b := 1) (by omega) (by decide), nI_eq0 (by omega)⟩
  unfold f_M_write_b98
  try dsimp only
  rw [h9, hr, h2, a1, a2, a3, a4]
  have c1 := b1 (T / 8 % 2) (by omega)
  have c2 := b1 (T / 16 % 2) (by omega)
  have c3 := b1 (w / 8 % 2) (by omega)
  have c4 := b1 (w / 16 % 2) (by omega)
  simp only [c1.1, c2.1, c3.2, c4.2]
  unfold endsW
  cases endsN w T <;> by_cases d1 : T / 8 % 2 = 1 <;> by_cases d2 : T / 16 % 2 = 1 <;> by_cases d3 : w / 8 % 2 = 0 <;> by_cases d4 : w / 16 % 2 = 0 <;> simp [d1, d2, d3, d4]
theorem endsW_small {w t : Nat} (h : t = 0 ∨ t = 1) (he : endsN w t = false) : endsW w t = false := by
  unfold endsW
  rw [he]
  rcases h with rfl | rfl <;> simp
theorem mem_RM {a : Ab} {τ ρ : St} {n : Nat} {m : Nat → Nat} (h : RM a τ) (f : ∀ k x, (k < 8 ∨ (101 ≤ k ∧ k ≤ 103)) → gI ρ k x = gI τ k x ∧ gJ ρ k x = gJ τ k x ∧ gZ ρ k x = gZ τ k x) (hn : gI ρ 8 30 = nI n) (hM : RBy ρ m) (hb : Byt ρ) : RM (Ab.mk17 (m) a.r a.e a.top a.w a.told a.c0 a.c1 a.c2 a.c3 a.kc a.kp a.ko a.lc a.lp a.lo (n)) ρ := RM_mk
  (hM)
  (fun i hi => by
    obtain ⟨h1, h2, h3⟩ := h.r i hi
    exact ⟨by rw [(f 101 i (by decide)).1]; exact h1, by rw [(f 102 i (by decide)).2.1]; exact h2, h3⟩)
  (fun i hi => by rw [(f 103 i (by decide)).2.2]; exact h.e i hi)
  (by rw [(f 1 30 (by decide)).1]; exact h.top)
  (by rw [(f 2 30 (by decide)).1]; exact h.w)
  (by rw [(f 3 30 (by decide)).1]; exact h.told)
  (by rw [(f 4 30 (by decide)).1]; exact h.c)
  (by rw [(f 5 30 (by decide)).1]; exact h.kc)
  (by rw [(f 6 30 (by decide)).1]; exact h.kp)
  (by rw [(f 7 30 (by decide)).1]; exact h.ko)
  (hn)
  (hb)
