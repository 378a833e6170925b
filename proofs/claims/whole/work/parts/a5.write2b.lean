/-! decimals written -/
theorem bad_8 : ∀ j, j < 8 → 13835058055282163712 / 256 ^ j % 256 = badB j := by decide
theorem bad_2 : ∀ j, j < 2 → 65535 / 256 ^ j % 256 = badB (8 + j) := by decide
theorem bad_b (m : Nat → Nat) : putm (putm m 0 8 13835058055282163712) 8 2 65535 = newB m 10 badB := by
  funext k
  unfold putm newB
  by_cases c : k < 8
  · rw [if_neg (by omega), if_pos ⟨by omega, by omega⟩, if_pos (by omega), Nat.sub_zero]
    exact bad_8 k c
  · by_cases c2 : k < 10
    · rw [if_pos ⟨by omega, by omega⟩, if_pos c2]
      obtain ⟨j, rfl⟩ : ∃ j, k = 8 + j := ⟨k - 8, by omega⟩
      rw [Nat.add_sub_cancel_left]
      exact bad_2 j (by omega)
    · rw [if_neg (by omega), if_neg (by omega), if_neg c2]
theorem fits_C (K : Int64) : (if K < 0 then false else if 1000000000000000000 ≤ K then false else true) = decide (uN K < 1000000000000000000) := by
  have c1 : (K < 0) ↔ 9223372036854775808 ≤ uN K := uN_neg
  have c2 : ((1000000000000000000 : Int64) ≤ K) ↔ (uN K < 9223372036854775808 ∧ 1000000000000000000 ≤ uN K) := by
    have e : (1000000000000000000 : Int64).toInt = 1000000000000000000 := by decide
    have b := uN_lt K
    rw [Int64.le_iff_toInt_le, uN_int K, e]
    split <;> omega
  simp only [c1, c2]
  generalize uN K = k
  by_cases q1 : 9223372036854775808 ≤ k
  · rw [if_pos q1]
    exact (decide_eq_false (by omega)).symm
  · rw [if_neg q1]
    by_cases q2 : 1000000000000000000 ≤ k
    · rw [if_pos ⟨by omega, q2⟩]
      exact (decide_eq_false (by omega)).symm
    · rw [if_neg (fun q => q2 q.2)]
      exact (decide_eq_true (by omega)).symm
theorem dec_ok {A : Re} (h : wBig A = false ∧ wK 4 A < 1000000000000000000) : decW A = ((if lossy (wX A) then 32 else 0), decB (wK 4 A) A.1) := if_pos h
theorem dec_bad {A : Re} (h : ¬ (wBig A = false ∧ wK 4 A < 1000000000000000000)) : decW A = (1, badB) := if_neg h
theorem writeDecimals_C {σ : St} {w t a : Nat} {m : Nat → Nat} {A : Re} (ha : RealIs σ a A.1 A.2.1 A.2.2) (hl : Loaded σ 9 A.2.2 (unitN A.2.1)) (hs : gI σ 6 3 = nI w) (hw : w < 65536) (ht : gI σ 7 3 = nI t) (htt : t < 64) (hne : endsW w t = false) (hM : MB σ m) : WrC σ (f_Wr_writeDecimals σ a) w t m ((decW A).1, 10, (decW A).2) := by
  have bad : ∀ ρ : St, frY σ ρ → gI ρ 6 3 = nI w → gI ρ 7 3 = nI t → MB ρ m → ¬ (wBig A = false ∧ wK 4 A < 1000000000000000000) → WrC σ (if f_Ctl_endsWriting (f_Ctl_tell ρ 1) = true then f_Ctl_tell ρ 1 else f_Mem_put (f_Mem_put (f_Ctl_tell ρ 1) 0 8 (-4611686018427387904)) 8 2 65535) w t m ((decW A).1, 10, (decW A).2) := fun ρ g1 g2 g3 g4 g5 => by
    rw [dec_bad g5]
    obtain ⟨k1, k2⟩ := put_at (MB_tell g4 1) 0 8 (F := 0) (N := 8) rfl rfl (-4611686018427387904) (by decide) (by decide)
    obtain ⟨k3, k4⟩ := put_at k1 8 2 (F := 8) (N := 2) rfl rfl 65535 (by decide) (by decide)
    rw [show uN (-4611686018427387904) = 13835058055282163712 from rfl, show uN 65535 = 65535 from rfl, bad_b] at k3
    have k5 := fr100_trans k2 k4
    generalize f_Mem_put (f_Mem_put (f_Ctl_tell ρ 1) 0 8 (-4611686018427387904)) 8 2 65535 = ν at *
    refine fin_W (frY_trans g1 (frY_tell _ _)) g2 hw ?_ htt (show 1 < 64 by decide) hne (MB_tell g4 1) k5 k3
    rw [tell_7, g3, show (1 : Int32) = nI 1 from rfl, nI_or _ _ (by omega) (by decide)]
  have e4 : f_Wr_roundToWhole σ a 4 = f_Wr_roundToWhole σ a (nI 4) := congrArg (fun z => f_Wr_roundToWhole σ a z) (show (4 : Int32) = nI 4 from rfl)
  unfold f_Wr_writeDecimals
  rw [e4]
  dsimp only
  rcases toWhole_C ha hl (show 4 ≤ 4 by decide) with ⟨b1, b2⟩ | ⟨b1, K, b2, b3⟩
  · rw [b2]
    simp only [Bool.false_eq_true, if_false]
    exact bad σ (frY_refl _) hs ht hM (fun q => by rw [b1] at q; cases q.1)
  · rw [b2]
    have f1 : frS σ (sZ (sJ σ 12 9 K) 13 9 (lossy (wX A))) := frS_rd _ _ _ _
    have g12 : gJ (sZ (sJ σ 12 9 K) 13 9 (lossy (wX A))) 12 9 = K := by simp [gJ_sZ, gJ_sJ]
    have g13 : gZ (sZ (sJ σ 12 9 K) 13 9 (lossy (wX A))) 13 9 = lossy (wX A) := by simp [gZ_sZ]
    dsimp only
    generalize sZ (sJ σ 12 9 K) 13 9 (lossy (wX A)) = ρ at *
    have ra := RealIs_fr ha f1
    have g12t : ∀ v, gJ (f_Ctl_tell ρ v) 12 9 = K := fun v => g12
    simp only [if_true]
    rw [g12, g13, fits_C, b3]
    by_cases c : wK 4 A < 1000000000000000000
    · rw [decide_eq_true c]
      simp only [if_true]
      rw [dec_ok ⟨b1, c⟩, (los_n (lossy (wX A))).1, g12t]
      have l6 := (los_n (lossy (wX A))).2
      generalize (if lossy (wX A) = true then 32 else 0) = T at *
      obtain ⟨k1, k2⟩ := dec_loop (s := f_Ctl_tell ρ (nI T)) A.1 (MB_tell (MB_S hM f1) _) b3 c
      have k3 : gZ (lpn b_Wr_writeDecimals_125 (upf 9 0) (0, K, f_Ctl_tell ρ (nI T))).2.2 15 a = A.1 := (k1.2.2 15 a).trans ra.1
      generalize (lpn b_Wr_writeDecimals_125 (upf 9 0) (0, K, f_Ctl_tell ρ (nI T))).2.2 = μ at *
      rw [k3]
      obtain ⟨k4, k5⟩ := put_at k2 9 1 (F := 9) (N := 1) rfl rfl (if A.1 = true then 128 else 0) (by decide) (by decide)
      have e : uN (if A.1 = true then 128 else 0) = (if A.1 = true then 128 else 0) := by cases A.1 <;> rfl
      rw [e, dec_sign] at k4
      have k6 := fr100_trans k1 k5
      generalize f_Mem_put μ 9 1 (if A.1 = true then 128 else 0) = ν at *
      refine fin_W (frY_trans (frY_S f1) (frY_tell _ _)) ?_ hw ?_ htt l6 hne (MB_tell (MB_S hM f1) _) k6 k4
      · rw [tell_6, f1.1 6 3 (by decide)]
        exact hs
      · rw [tell_7, f1.1 7 3 (by decide), ht, nI_or _ _ (by omega) (by omega)]
    · rw [decide_eq_false c]
      simp only [Bool.false_eq_true, if_false]
      exact bad _ (frY_S f1) (by rw [f1.1 6 3 (by decide)]; exact hs) (by rw [f1.1 7 3 (by decide)]; exact ht) (MB_S hM f1) (fun q => c q.2)
