/-! the reference's operation from the stack's side -/
def Byt (τ : St) : Prop := ∀ k, k < 10 → ∃ n, n < 256 ∧ gI τ 114 k = nI n
def frX (τ ρ : St) : Prop := (∀ k x, (k < 8 ∨ (10 ≤ k ∧ k ≤ 12) ∨ (100 ≤ k ∧ k ≤ 103)) → gI ρ k x = gI τ k x ∧ gJ ρ k x = gJ τ k x ∧ gZ ρ k x = gZ τ k x) ∧ (Byt τ → Byt ρ)
theorem Byt_eq {τ ρ : St} (h : ∀ k, gI ρ 114 k = gI τ 114 k) : Byt τ → Byt ρ := fun g k hk => by
  rw [h k]
  exact g k hk
theorem frX_refl (τ : St) : frX τ τ := ⟨fun _ _ _ => ⟨rfl, rfl, rfl⟩, fun g => g⟩
theorem frX_trans {τ ρ σ : St} (h : frX τ ρ) (g : frX ρ σ) : frX τ σ := ⟨fun k x a => ⟨(g.1 k x a).1.trans (h.1 k x a).1, (g.1 k x a).2.1.trans (h.1 k x a).2.1, (g.1 k x a).2.2.trans (h.1 k x a).2.2⟩, fun b => g.2 (h.2 b)⟩
theorem frX_I (τ : St) (k o : Nat) (v : Int32) (hk : ¬ (k < 8 ∨ (10 ≤ k ∧ k ≤ 12) ∨ (100 ≤ k ∧ k ≤ 103) ∨ k = 114)) : frX τ (sI τ k o v) := by
  refine ⟨fun k' x a => ⟨?_, rfl, rfl⟩, Byt_eq (fun x => ?_)⟩
  · rw [gI_sI, if_neg (by omega)]
  · rw [gI_sI, if_neg (by omega)]
theorem frX_J (τ : St) (k o : Nat) (v : Int64) (hk : ¬ (k < 8 ∨ (10 ≤ k ∧ k ≤ 12) ∨ (100 ≤ k ∧ k ≤ 103))) : frX τ (sJ τ k o v) := by
  refine ⟨fun k' x a => ⟨rfl, ?_, rfl⟩, fun g => g⟩
  rw [gJ_sJ, if_neg (by omega)]
theorem frX_Z (τ : St) (k o : Nat) (v : Bool) (hk : ¬ (k < 8 ∨ (10 ≤ k ∧ k ≤ 12) ∨ (100 ≤ k ∧ k ≤ 103))) : frX τ (sZ τ k o v) := by
  refine ⟨fun k' x a => ⟨rfl, rfl, ?_⟩, fun g => g⟩
  rw [gZ_sZ, if_neg (by omega)]
theorem frX_O {τ ρ : St} (h : frO τ ρ) : frX τ ρ := ⟨fun k x a => h k x (by omega) (by omega), Byt_eq (fun k => (h 114 k (by decide) (by decide)).1)⟩
/-- what a step leaves at the stack's side: what is said, whether it is over, the answer -/
def XOut (τ ρ : St) (w : Nat) (R : Nat × Ra) : Prop := frX τ ρ ∧ gI ρ 8 30 = gI τ 8 30 ||| nI R.1 ∧ R.1 < 64 ∧ gZ ρ 9 30 = (gZ τ 9 30 || endsN w R.1) ∧ (endsN w R.1 = false → ∃ p : Int32, gI ρ 13 30 = (if R.2.1 = true then 32768 else 0) + p ∧ p.toInt = R.2.2.1 ∧ uN (gJ ρ 14 30) = R.2.2.2)
theorem control_M {τ : St} {w : Nat} (hw : w < 65536) : f_MO_control τ (nI w) = sI (sI τ 15 35 0) 16 35 (nI w) := by
  have c1 : ¬ nI w < 0 := nI_pos (by omega)
  have c2 : nI w ≤ 65535 := nI_le (b := 65535) (by omega) (by decide)
  unfold f_MO_control
  have e : bI false = (0 : Int32) := rfl
  have g : gI (sI τ 15 35 0) 15 35 = 0 := by simp [gI_sI]
  simp only [c1, c2, if_false, if_true, e, g]
theorem set_M {τ : St} {r t : Nat} (hr : r < 8) (ht : t < 65536) (f : Int64) : f_MO_set τ (nI r) (nI t) (f_M_high f) (Int64.toInt32 f) = sJ (sI (sI τ 15 35 0) 104 r (nI t)) 105 r f := by
  have c0 : f_MO_none (nI r) = false := by
    rcases (show r = 0 ∨ r = 1 ∨ r = 2 ∨ r = 3 ∨ r = 4 ∨ r = 5 ∨ r = 6 ∨ r = 7 by omega) with rfl | rfl | rfl | rfl | rfl | rfl | rfl | rfl <;> decide
  have c1 : ¬ nI t < 0 := nI_pos (by omega)
  have c2 : nI t ≤ 65535 := nI_le (b := 65535) (by omega) (by decide)
  have g : gI (sI τ 15 35 0) 15 35 ≤ 0 := by
    rw [gI_sI, if_pos rfl, if_pos rfl]
    decide
  unfold f_MO_set
  simp only [c0, Bool.false_eq_true, if_false, c1, c2, if_true, g, jat_nI (show r < 2 ^ 31 by omega), halves]
theorem part_M {τ : St} (a : Nat) (ha : a < 3) : f_MO_part τ 2 (nI a) = ((if a = 0 then gI τ 104 2 else if a = 1 then f_M_high (gJ τ 105 2) else Int64.toInt32 (gJ τ 105 2)), sI τ 15 35 0) := by
  have c0 : f_MO_none 2 = false := by decide
  have j2 : jat 2 = 2 := by decide
  have g : gI (sI τ 15 35 0) 15 35 ≤ 0 := by
    rw [gI_sI, if_pos rfl, if_pos rfl]
    decide
  rcases (show a = 0 ∨ a = 1 ∨ a = 2 by omega) with rfl | rfl | rfl
  · unfold f_MO_part
    have c1 : ¬ nI 0 < 0 := by decide
    have c2 : nI 0 ≤ 2 := by decide
    simp only [c0, Bool.false_eq_true, if_false, c1, c2, if_true, g, j2]
    rfl
  · unfold f_MO_part
    have c1 : ¬ nI 1 < 0 := by decide
    have c2 : nI 1 ≤ 2 := by decide
    have c3 : ¬ nI 1 = 0 := by decide
    have c4 : nI 1 = 1 := rfl
    simp only [c0, Bool.false_eq_true, if_false, c1, c2, if_true, g, j2, c3]
    simp only [c4, if_true]
    rfl
  · unfold f_MO_part
    have c1 : ¬ nI 2 < 0 := by decide
    have c2 : nI 2 ≤ 2 := by decide
    have c3 : ¬ nI 2 = 0 := by decide
    have c4 : ¬ nI 2 = 1 := by decide
    simp only [c0, Bool.false_eq_true, if_false, c1, c2, if_true, g, j2, c3, c4]
    rfl
theorem Moperate_M {τ : St} {o w : Nat} {A B : Re} {fA fB : Int64} (ho : o ≤ 6) (hc : gI τ 2 30 = nI w) (hw : w < 65536) (hA : uN fA = A.2.2) (hB : uN fB = B.2.2) (pA : A.2.1 ≤ 32767) (pB : B.2.1 ≤ 32767) : XOut τ (f_M_operate τ (nI o) (nI (topN A)) fA (nI (topN B)) fB) w (opS (kOf o) w (ordA o A B) (ordB o A B)) := by
  unfold f_M_operate
  have z0 : (0 : Int32) = nI 0 := rfl
  have z1 : (1 : Int32) = nI 1 := rfl
  have z2 : (2 : Int32) = nI 2 := rfl
  have s1 := control_M (τ := τ) hw
  have tA := topN_lt pA
  have tB := topN_lt pB
  have e2 : f_MO_set (f_MO_control τ (gI τ 2 30)) 0 (nI (topN A)) (f_M_high fA) (Int64.toInt32 fA) = sJ (sI (sI (sI (sI τ 15 35 0) 16 35 (nI w)) 15 35 0) 104 0 (nI (topN A))) 105 0 fA := by
    rw [hc, s1]
    exact set_M (r := 0) (by decide) tA fA
  generalize hs2 : sJ (sI (sI (sI (sI τ 15 35 0) 16 35 (nI w)) 15 35 0) 104 0 (nI (topN A))) 105 0 fA = s2 at *
  have e3 : f_MO_set s2 1 (nI (topN B)) (f_M_high fB) (Int64.toInt32 fB) = sJ (sI (sI s2 15 35 0) 104 1 (nI (topN B))) 105 1 fB := set_M (r := 1) (by decide) tB fB
  generalize hs3 : sJ (sI (sI s2 15 35 0) 104 1 (nI (topN B))) 105 1 fB = s3 at *
  have f3 : frO τ s3 := by
    rw [← hs3, ← hs2]
    exact frO_trans (frO_I _ 15 35 _ (by decide)) (frO_trans (frO_I _ 16 35 _ (by decide)) (frO_trans (frO_I _ 15 35 _ (by decide)) (frO_trans (frO_I _ 104 0 _ (by decide)) (frO_trans (frO_J _ 105 0 _ (by decide)) (frO_trans (frO_I _ 15 35 _ (by decide)) (frO_trans (frO_I _ 104 1 _ (by decide)) (frO_J _ 105 1 _ (by decide))))))))
  have w3 : gI s3 16 35 = nI w := by
    rw [← hs3, ← hs2]
    simp [gI_sJ, gI_sI]
  have rA : RegIs s3 104 105 0 A := by
    refine ⟨?_, ?_, pA⟩
    · rw [← hs3, ← hs2]
      simp [gI_sJ, gI_sI]
    · rw [← hs3, ← hs2]
      simp [gJ_sJ, gJ_sI]
      exact hA
  have rB : RegIs s3 104 105 1 B := by
    refine ⟨?_, ?_, pB⟩
    · rw [← hs3]
      simp [gI_sJ, gI_sI]
    · rw [← hs3]
      simp [gJ_sJ, gJ_sI]
      exact hB
  obtain ⟨ρ, c1, f1, r6, an⟩ := operate_M ho w3 hw rA rB _ rfl
  generalize opS (kOf o) w (ordA o A B) (ordB o A B) = R at *
  have hc1 : gI ρ 2 30 = nI w := by rw [(f1 2 30 (by decide) (by decide)).1, (f3 2 30 (by decide) (by decide)).1]; exact hc
  have sy := say_M hc1 hw r6
  simp only [e2, e3, c1, sy]
  have p0 := fun s => part_M (τ := s) 0 (by decide)
  have p1 := fun s => part_M (τ := s) 1 (by decide)
  have p2 := fun s => part_M (τ := s) 2 (by decide)
  rw [← z0] at p0
  rw [← z1] at p1
  rw [← z2] at p2
  simp only [p0, p1, p2, if_true, show ¬ ((1 : Nat) = 0) by decide, show ¬ ((2 : Nat) = 0) by decide, show ¬ ((2 : Nat) = 1) by decide, if_false]
  have fo := frO_trans f3 f1
  have g105 : gJ (sI (sI (sZ (sI ρ 8 30 (gI ρ 8 30 ||| nI R.1)) 9 30 (gZ ρ 9 30 || endsN w R.1)) 15 35 0) 13 30 (gI (sZ (sI ρ 8 30 (gI ρ 8 30 ||| nI R.1)) 9 30 (gZ ρ 9 30 || endsN w R.1)) 104 2)) 105 2 = gJ ρ 105 2 := rfl
  have g105b : gJ (sI (sI (sI (sZ (sI ρ 8 30 (gI ρ 8 30 ||| nI R.1)) 9 30 (gZ ρ 9 30 || endsN w R.1)) 15 35 0) 13 30 (gI (sZ (sI ρ 8 30 (gI ρ 8 30 ||| nI R.1)) 9 30 (gZ ρ 9 30 || endsN w R.1)) 104 2)) 15 35 0) 105 2 = gJ ρ 105 2 := rfl
  have g104 : gI (sZ (sI ρ 8 30 (gI ρ 8 30 ||| nI R.1)) 9 30 (gZ ρ 9 30 || endsN w R.1)) 104 2 = gI ρ 104 2 := by
    rw [gI_sZ, gI_sI, if_neg (by decide)]
  rw [g105, g105b, halves, g104]
  refine ⟨?_, ?_, r6, ?_, fun q => ?_⟩
  · exact frX_trans (frX_O fo) (frX_trans (frX_I _ 8 30 _ (by decide)) (frX_trans (frX_Z _ 9 30 _ (by decide)) (frX_trans (frX_I _ 15 35 _ (by decide)) (frX_trans (frX_I _ 13 30 _ (by decide)) (frX_trans (frX_I _ 15 35 _ (by decide)) (frX_trans (frX_I _ 15 35 _ (by decide)) (frX_J _ 14 30 _ (by decide))))))))
  · have := (fo 8 30 (by decide) (by decide)).1
    rw [← this]
    simp [gI_sJ, gI_sI, gI_sZ]
  · have := (fo 9 30 (by decide) (by decide)).2.2
    rw [← this]
    simp [gZ_sJ, gZ_sI, gZ_sZ]
  · obtain ⟨p, q1, q2, q3⟩ := an q
    refine ⟨p, ?_, q2, ?_⟩
    · rw [← q1]
      simp [gI_sJ, gI_sI, gI_sZ]
    · rw [gJ_sJ, if_pos rfl, if_pos rfl]
      exact q3
