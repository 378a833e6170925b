/-! the reference: all formats written -/
theorem CIn_in {τ : St} {w : Nat} {A : Re} (hf : uN (gJ τ 113 0) = A.2.2) (pA : A.2.1 ≤ 32767) (hwd : gI τ 38 45 = nI w) : CIn (sJ (sI (sZ (sI τ 37 45 0) 39 45 A.1) 40 45 (nI A.2.1)) 41 45 (gJ τ 113 0)) A w ∧ frC τ (sJ (sI (sZ (sI τ 37 45 0) 39 45 A.1) 40 45 (nI A.2.1)) 41 45 (gJ τ 113 0)) := by
  refine ⟨⟨?_, ?_, ?_, pA, ?_⟩, frC_trans (frC_I _ 37 _ _ (by decide)) (frC_trans (frC_Z _ 39 _ _ (by decide)) (frC_trans (frC_I _ 40 _ _ (by decide)) (frC_J _ 41 _ _ (by decide))))⟩
  · show gZ (sZ (sI τ 37 45 0) 39 45 A.1) 39 45 = _
    rw [gZ_sZ, if_pos rfl, if_pos rfl]
  · show gI (sI (sZ (sI τ 37 45 0) 39 45 A.1) 40 45 (nI A.2.1)) 40 45 = _
    rw [gI_sI, if_pos rfl, if_pos rfl]
  · rw [gJ_sJ, if_pos rfl, if_pos rfl]
    exact hf
  · show gI (sI (sZ (sI τ 37 45 0) 39 45 A.1) 40 45 (nI A.2.1)) 38 45 = _
    rw [gI_sI, if_neg (by decide), gI_sZ, gI_sI, if_neg (by decide)]
    exact hwd
theorem WOuC_pre {τ s : St} {r : Int32 × St} {w : Nat} {R : Nat × Nat × (Nat → Nat)} (f : frC τ s) (o : WOuC s r w R) : WOuC τ r w R := ⟨o.1, frD_trans (frD_C f) o.2.1, o.2.2⟩
theorem pat_B {s : St} {A : Re} (hb : Byt s) (hf : uN (gJ s 41 45) = A.2.2) (ht : gI s 112 0 = nI (topN A)) (pA : A.2.1 ≤ 32767) : frD s (sI (sI (f_MC_setBits s 0 64 (gJ s 41 45)) 114 (jat 8) (jrem (gI (f_MC_setBits s 0 64 (gJ s 41 45)) 112 (jat 0)) 256)) 114 (jat 9) (gI (sI (f_MC_setBits s 0 64 (gJ s 41 45)) 114 (jat 8) (jrem (gI (f_MC_setBits s 0 64 (gJ s 41 45)) 112 (jat 0)) 256)) 112 (jat 0) / 256)) ∧ ∀ k, k < 10 → gI (sI (sI (f_MC_setBits s 0 64 (gJ s 41 45)) 114 (jat 8) (jrem (gI (f_MC_setBits s 0 64 (gJ s 41 45)) 112 (jat 0)) 256)) 114 (jat 9) (gI (sI (f_MC_setBits s 0 64 (gJ s 41 45)) 114 (jat 8) (jrem (gI (f_MC_setBits s 0 64 (gJ s 41 45)) 112 (jat 0)) 256)) 112 (jat 0) / 256)) 114 k = nI (vB (A.2.2 + 2 ^ 64 * topN A) k) := by
  have bF := uN_lt2 (gJ s 41 45)
  rw [hf] at bF
  have tl := topN_lt pA
  obtain ⟨k1, k2, k3⟩ := setAll_B (τ := s) (c := 8) (n := 64) (V := A.2.2) (v := gJ s 41 45) hb rfl (by decide) (by rw [hf])
  have k1' : fr114 s (f_MC_setBits s 0 64 (gJ s 41 45)) := k1
  have k3' : ∀ k, k < 8 → gI (f_MC_setBits s 0 64 (gJ s 41 45)) 114 k = nI (vB A.2.2 k) := k3
  clear k1 k2 k3
  have j0 : jat 0 = 0 := by decide
  have j8 : jat 8 = 8 := by decide
  have j9 : jat 9 = 9 := by decide
  generalize f_MC_setBits s 0 64 (gJ s 41 45) = s5 at *
  have t5 : gI s5 112 0 = nI (topN A) := by rw [k1'.1 112 0 (by decide)]; exact ht
  have r8 : jrem (nI (topN A)) 256 = nI (topN A % 256) := pk_rem (d := 256) (by omega) (by decide) (by decide)
  have r9 : nI (topN A) / 256 = nI (topN A / 256) := pk_div (d := 256) (by omega) (by decide) (by decide)
  rw [j0, j8, j9, t5, r8]
  have t6 : gI (sI s5 114 8 (nI (topN A % 256))) 112 0 = nI (topN A) := by rw [gI_sI, if_neg (by decide)]; exact t5
  rw [t6, r9]
  refine ⟨frD_114 (fr114_trans k1' (fr114_trans (fr114_I _ _ _) (fr114_I _ _ _))), fun k hk => ?_⟩
  have e64 : (2 : Nat) ^ 64 = 256 ^ 8 := rfl
  have big : ∀ j, vB (A.2.2 + 2 ^ 64 * topN A) (8 + j) = topN A / 256 ^ j % 256 := fun j => by
    unfold vB
    rw [Nat.pow_add 256 8 j, ← Nat.div_div_eq_div_mul, ← e64, Nat.add_mul_div_left _ _ (pow_pos2 64), Nat.div_eq_of_lt bF, Nat.zero_add]
  rw [gI_sI, if_pos rfl]
  by_cases c9 : k = 9
  · rw [if_pos c9, c9, big 1]
    congr 1
    rw [Nat.pow_one]
    omega
  · rw [if_neg c9, gI_sI, if_pos rfl]
    by_cases c8 : k = 8
    · rw [if_pos c8, c8, big 0, Nat.pow_zero, Nat.div_one]
    · rw [if_neg c8, k3' k (by omega)]
      congr 1
      unfold vB
      rw [← byte_mod (A.2.2 + 2 ^ 64 * topN A) 8 k (by omega), e64, Nat.add_mul_mod_self_left, ← e64, Nat.mod_eq_of_lt bF]
theorem write_B {τ : St} {w fm : Nat} {A : Re} (hfm : fm ≤ 6) (ht : gI τ 112 0 = nI (topN A)) (hf : uN (gJ τ 113 0) = A.2.2) (pA : A.2.1 ≤ 32767) (hwd : gI τ 38 45 = nI w) (hw : w < 65536) (hb : Byt τ) : WOuC τ (f_MC_write τ (nI fm) 0) w (writeS w fm A) := by
  obtain ⟨ci, fc⟩ := CIn_in hf pA hwd
  have bb := Byt_114 hb fc
  have c0 : f_MC_none 0 = false := by decide
  have c1 : ¬ nI fm < 0 := nI_pos (by omega)
  have c2 : nI fm ≤ 6 := nI_le (b := 6) (by omega) (by decide)
  have j0 : jat 0 = 0 := by decide
  have t1 : (if f_MC_none 0 = true then (1 : Int32) else if nI fm < 0 then 2 else if nI fm ≤ 6 then 0 else 2) = 0 := by rw [c0, if_neg Bool.false_ne_true, if_neg c1, if_pos c2]
  have g : gI (sI τ 37 45 0) 37 45 ≤ 0 := by
    rw [gI_sI, if_pos rfl, if_pos rfl]
    decide
  have g1 : gI (sI τ 37 45 0) 112 (jat 0) = nI (topN A) := by
    rw [j0, gI_sI, if_neg (by decide)]
    exact ht
  have e2 : (if gI (sI τ 37 45 0) 112 (jat 0) ≤ 32767 then false else true) = A.1 := by
    rw [g1]
    exact top_minus pA
  have e3 : jrem (gI (sZ (sI τ 37 45 0) 39 45 A.1) 112 (jat 0)) 32768 = nI A.2.1 := by
    rw [gI_sZ, g1]
    exact top_power pA
  have e4 : gJ (sI (sZ (sI τ 37 45 0) 39 45 A.1) 40 45 (nI A.2.1)) 113 (jat 0) = gJ τ 113 0 := by
    rw [j0]
    rfl
  have ht4 : gI (sJ (sI (sZ (sI τ 37 45 0) 39 45 A.1) 40 45 (nI A.2.1)) 41 45 (gJ τ 113 0)) 112 0 = nI (topN A) := by
    show gI (sI (sZ (sI τ 37 45 0) 39 45 A.1) 40 45 (nI A.2.1)) 112 0 = _
    rw [gI_sI, if_neg (by decide), gI_sZ, gI_sI, if_neg (by decide)]
    exact ht
  unfold f_MC_write
  try dsimp only
  rw [t1, if_pos g, e2, e3, e4]
  generalize sJ (sI (sZ (sI τ 37 45 0) 39 45 A.1) 40 45 (nI A.2.1)) 41 45 (gJ τ 113 0) = s at *
  rcases (show fm = 0 ∨ fm = 1 ∨ fm = 2 ∨ fm = 3 ∨ fm = 4 ∨ fm = 5 ∨ fm = 6 by omega) with rfl | rfl | rfl | rfl | rfl | rfl | rfl
  · rw [if_pos (show nI 0 = 0 by decide), ws0]
    exact WOuC_pre fc (writeWhole_B (n := 16) (Or.inl rfl) ci bb hw)
  · rw [if_neg (show ¬ nI 1 = 0 by decide), if_pos (show nI 1 = 1 by decide), ws1]
    exact WOuC_pre fc (writeWhole_B (n := 32) (Or.inr (Or.inl rfl)) ci bb hw)
  · rw [if_neg (show ¬ nI 2 = 0 by decide), if_neg (show ¬ nI 2 = 1 by decide), if_pos (show nI 2 = 2 by decide), ws2]
    exact WOuC_pre fc (writeWhole_B (n := 64) (Or.inr (Or.inr rfl)) ci bb hw)
  · rw [if_neg (show ¬ nI 3 = 0 by decide), if_neg (show ¬ nI 3 = 1 by decide), if_neg (show ¬ nI 3 = 2 by decide), if_pos (show nI 3 = 3 by decide), ws3]
    exact WOuC_pre fc (writeReal_B (d := 24) (p := 8) (c := 4) (Or.inl ⟨rfl, rfl, rfl⟩) ci bb hw)
  · rw [if_neg (show ¬ nI 4 = 0 by decide), if_neg (show ¬ nI 4 = 1 by decide), if_neg (show ¬ nI 4 = 2 by decide), if_neg (show ¬ nI 4 = 3 by decide), if_pos (show nI 4 = 4 by decide), ws4]
    exact WOuC_pre fc (writeReal_B (d := 53) (p := 11) (c := 8) (Or.inr ⟨rfl, rfl, rfl⟩) ci bb hw)
  · rw [if_neg (show ¬ nI 5 = 0 by decide), if_neg (show ¬ nI 5 = 1 by decide), if_neg (show ¬ nI 5 = 2 by decide), if_neg (show ¬ nI 5 = 3 by decide), if_neg (show ¬ nI 5 = 4 by decide), if_pos (show nI 5 = 5 by decide), ws5]
    exact WOuC_pre fc (writeDecimals_B ci bb hw)
  · rw [if_neg (show ¬ nI 6 = 0 by decide), if_neg (show ¬ nI 6 = 1 by decide), if_neg (show ¬ nI 6 = 2 by decide), if_neg (show ¬ nI 6 = 3 by decide), if_neg (show ¬ nI 6 = 4 by decide), if_neg (show ¬ nI 6 = 5 by decide), ws6]
    obtain ⟨k1, k2⟩ := pat_B bb ci.2.2.1 ht4 pA
    refine ⟨rfl, frD_trans (frD_C fc) k1, fun k hk => ⟨_, Nat.mod_lt _ (by decide), k2 k hk⟩, (show 0 < 64 by decide), fun _ => k2⟩
