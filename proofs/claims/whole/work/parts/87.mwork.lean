/-! the reference's operation, behind the reading of its operands -/
def frW (τ ρ : St) : Prop := ∀ k x, ¬ (18 ≤ k ∧ k ≤ 25) → k ≠ 109 → gI ρ k x = gI τ k x ∧ gJ ρ k x = gJ τ k x ∧ gZ ρ k x = gZ τ k x
theorem frW_refl (τ : St) : frW τ τ := fun _ _ _ _ => ⟨rfl, rfl, rfl⟩
theorem frW_trans {τ ρ σ : St} (h : frW τ ρ) (g : frW ρ σ) : frW τ σ := fun k x a b => ⟨(g k x a b).1.trans (h k x a b).1, (g k x a b).2.1.trans (h k x a b).2.1, (g k x a b).2.2.trans (h k x a b).2.2⟩
theorem frW_I (τ : St) (k o : Nat) (v : Int32) (hk : 18 ≤ k ∧ k ≤ 25) : frW τ (sI τ k o v) := fun k' x a b => by
  refine ⟨?_, rfl, rfl⟩
  rw [gI_sI, if_neg (fun q => a (by omega))]
theorem frW_J (τ : St) (k o : Nat) (v : Int64) (hk : 18 ≤ k ∧ k ≤ 25) : frW τ (sJ τ k o v) := fun k' x a b => by
  refine ⟨rfl, ?_, rfl⟩
  rw [gJ_sJ, if_neg (fun q => a (by omega))]
theorem frW_Z (τ : St) (k o : Nat) (v : Bool) (hk : 18 ≤ k ∧ k ≤ 25) : frW τ (sZ τ k o v) := fun k' x a b => by
  refine ⟨rfl, rfl, ?_⟩
  rw [gZ_sZ, if_neg (fun q => a (by omega))]
theorem frW_row (τ : St) (n lo : Int32) (m : Bool) (r : Nat → Bool) : frW τ (rowst τ n lo m r) := by
  have h1 : frW τ (sZ (sI (sI τ 18 35 n) 19 35 lo) 20 35 m) := frW_trans (frW_I _ _ _ _ (by decide)) (frW_trans (frW_I _ _ _ _ (by decide)) (frW_Z _ _ _ _ (by decide)))
  refine frW_trans h1 (fun k x a b => ⟨rfl, rfl, ?_⟩)
  exact setRow_ne _ _ _ _ b
theorem frW_answer (τ : St) (sg : Bool) (p : Int32) (f : Int64) : frW τ (f_MO_answer τ sg p f) := frW_trans (frW_I _ _ _ _ (by decide)) (frW_J _ _ _ _ (by decide))
theorem answer_get (τ : St) (sg : Bool) (p : Int32) (f : Int64) : gI (f_MO_answer τ sg p f) 23 35 = (if sg = true then 32768 else 0) + p ∧ gJ (f_MO_answer τ sg p f) 24 35 = f ∧ gI (f_MO_answer τ sg p f) 21 35 = gI τ 21 35 ∧ gZ (f_MO_answer τ sg p f) 22 35 = gZ τ 22 35 := by
  refine ⟨?_, ?_, rfl, rfl⟩
  · simp [f_MO_answer, gI_sJ, gI_sI]
  · simp [f_MO_answer, gJ_sJ]
/-- what stands behind it: what is told, whether it stopped, the answer -/
def WOut (τ ρ : St) (w : Nat) (R : Nat × Ra) : Prop := frW τ ρ ∧ gI ρ 21 35 = nI R.1 ∧ R.1 < 64 ∧ gZ ρ 22 35 = endsN w R.1 ∧ (endsN w R.1 = false → ∃ p : Int32, gI ρ 23 35 = (if R.2.1 = true then 32768 else 0) + p ∧ p.toInt = R.2.2.1 ∧ uN (gJ ρ 24 35) = R.2.2.2)
theorem Made_out {τ ρ : St} {t0 : Nat} {sg : Bool} {R : Nat × Int × Nat} (h : Made τ ρ t0 sg R) : frW τ ρ ∧ gI ρ 21 35 = nI (t0 + R.1) ∧ gZ ρ 22 35 = gZ τ 22 35 ∧ ∃ p : Int32, gI ρ 23 35 = (if sg = true then 32768 else 0) + p ∧ p.toInt = R.2.1 ∧ uN (gJ ρ 24 35) = R.2.2 := by
  obtain ⟨n, lo, m, r, b, pw, F, e, h1, h2⟩ := h
  subst e
  unfold mkst
  obtain ⟨g1, g2, g3, g4⟩ := answer_get (sI (sZ (rowst τ n lo m r) 25 35 b) 21 35 (nI (t0 + R.1))) sg pw F
  refine ⟨frW_trans (frW_row _ _ _ _ _) (frW_trans (frW_Z _ _ _ _ (by decide)) (frW_trans (frW_I _ _ _ _ (by decide)) (frW_answer _ _ _ _))), ?_, ?_, pw, g1, h1, by rw [g2]; exact h2⟩
  · rw [g3]
    simp [gI_sI]
  · rw [g4]
    rfl
theorem tell_M {τ : St} {w t0 : Nat} (hwd : gI τ 16 35 = nI w) (hw : w < 65536) (ht : gI τ 21 35 = nI t0) (i : Nat) (hi : i < 16) : ∃ ρ : St, f_MO_tell τ (nI (2 ^ i)) = (decide (w / 2 ^ i % 2 = 1), ρ) ∧ frW τ ρ ∧ gI ρ 21 35 = nI (t0 + 2 ^ i) ∧ gZ ρ 22 35 = decide (¬ w / 2 ^ i % 2 = 1) := by
  have c := nI_bit hw hi
  have g16 : gI (sI τ 21 35 (gI τ 21 35 + nI (2 ^ i))) 16 35 = nI w := hwd
  have t1 : (if nI w &&& nI (2 ^ i) = 0 then true else false) = decide (¬ w / 2 ^ i % 2 = 1) := by
    simp only [c]
    by_cases q : w / 2 ^ i % 2 = 1 <;> simp [q]
  refine ⟨sZ (sI τ 21 35 (gI τ 21 35 + nI (2 ^ i))) 22 35 (decide (¬ w / 2 ^ i % 2 = 1)), ?_, frW_trans (frW_I _ _ _ _ (by decide)) (frW_Z _ _ _ _ (by decide)), ?_, ?_⟩
  · unfold f_MO_tell
    simp only [g16, t1]
    have g22 : gZ (sZ (sI τ 21 35 (gI τ 21 35 + nI (2 ^ i))) 22 35 (decide (¬ w / 2 ^ i % 2 = 1))) 22 35 = decide (¬ w / 2 ^ i % 2 = 1) := by simp [gZ_sZ]
    rw [g22]
    by_cases q : w / 2 ^ i % 2 = 1 <;> simp [q]
  · rw [gI_sZ, gI_sI, if_pos rfl, if_pos rfl, ht, nI_add]
  · simp [gZ_sZ]
theorem OpIs_fr {τ ρ : St} {i P F : Nat} {m : Bool} (h : OpIs τ i m P F) (f : frW τ ρ) : OpIs ρ i m P F := by
  refine ⟨?_, ?_, h.2.2.1, ?_⟩
  · rw [(f 106 i (by decide) (by decide)).2.2]; exact h.1
  · rw [(f 107 i (by decide) (by decide)).1]; exact h.2.1
  · rw [(f 108 i (by decide) (by decide)).2.1]; exact h.2.2.2
/-! what the operands are -/
theorem endless_M {τ : St} {a : Int32} {i P F : Nat} {m : Bool} (ja : jat a = i) (h : OpIs τ i m P F) : f_MO_isEndless τ a = isInf P F := by
  obtain ⟨h1, h2, h3, h4⟩ := h
  have bF := uN_lt (gJ τ 108 i)
  have c1 : (nI P = 32767) ↔ P = 32767 := nI_eq (b := 32767) (by omega) (by decide)
  have c3 : (jlshl (gJ τ 108 i) 1 = 0) ↔ F % 9223372036854775808 = 0 := by
    rw [uN_eq0, dbl1, h4]
    omega
  unfold f_MO_isEndless isInf
  simp only [ja, h2, c1, c3]
  by_cases d1 : P = 32767 <;> by_cases d2 : F % 9223372036854775808 = 0 <;> simp [d1, d2]
theorem none_M {τ : St} {a : Int32} {i P F : Nat} {m : Bool} (ja : jat a = i) (h : OpIs τ i m P F) : f_MO_isNone τ a = isNan P F := by
  obtain ⟨h1, h2, h3, h4⟩ := h
  have bF := uN_lt (gJ τ 108 i)
  have c1 : (nI P = 32767) ↔ P = 32767 := nI_eq (b := 32767) (by omega) (by decide)
  have c3 : (jlshl (gJ τ 108 i) 1 = 0) ↔ F % 9223372036854775808 = 0 := by
    rw [uN_eq0, dbl1, h4]
    omega
  unfold f_MO_isNone isNan
  simp only [ja, h2, c1, c3]
  by_cases d1 : P = 32767 <;> by_cases d2 : F % 9223372036854775808 = 0 <;> simp [d1, d2]
theorem nil_M {τ : St} {a : Int32} {i P F : Nat} {m : Bool} (ja : jat a = i) (h : OpIs τ i m P F) : f_MO_isNothing τ a = isNil P F := by
  obtain ⟨h1, h2, h3, h4⟩ := h
  have c1 : ((32767 : Int32) ≤ nI P) ↔ 32767 ≤ P := nI_leI (a := 32767) (by decide) (by omega)
  have c4 : (gJ τ 108 i = 0) ↔ F = 0 := by rw [uN_eq0, h4]
  unfold f_MO_isNothing isNil
  simp only [ja, h2, c1, c4]
  by_cases d1 : P = 32767
  · simp [d1]
  · have : ¬ 32767 ≤ P := by omega
    by_cases d2 : F = 0 <;> simp [d1, d2, this]
theorem denorm_M {τ : St} {a : Int32} {i P F : Nat} {m : Bool} (ja : jat a = i) (h : OpIs τ i m P F) : f_MO_isDenormal τ a = isDen P F := by
  obtain ⟨h1, h2, h3, h4⟩ := h
  have c1 : (nI P = 0) ↔ P = 0 := nI_eq0 (by omega)
  have c4 : (gJ τ 108 i = 0) ↔ F = 0 := by rw [uN_eq0, h4]
  unfold f_MO_isDenormal isDen
  simp only [ja, h2, c1, c4]
  by_cases d1 : P = 0 <;> by_cases d2 : F = 0 <;> simp [d1, d2]
theorem unnorm_M {τ : St} {a : Int32} {i P F : Nat} {m : Bool} (ja : jat a = i) (h : OpIs τ i m P F) : f_MO_isUnnormal τ a = isUnn P F := by
  obtain ⟨h1, h2, h3, h4⟩ := h
  have bF := uN_lt (gJ τ 108 i)
  have c1 : (gJ τ 108 i ≤ 0) ↔ (F = 0 ∨ 9223372036854775808 ≤ F) := by rw [uN_np, h4]
  have c2 : (nI P ≤ 0) ↔ P = 0 := by
    have := nI_leI (a := P) (b := 0) (by omega) (by decide)
    rw [show (0 : Int32) = nI 0 from rfl, this]
    omega
  have c3 : (32767 ≤ nI P) ↔ 32767 ≤ P := nI_leI (a := 32767) (b := P) (by decide) (by omega)
  unfold f_MO_isUnnormal isUnn
  simp only [ja, h2, c1, c2, c3]
  by_cases d1 : P = 0 <;> by_cases d2 : F = 0 <;> by_cases d3 : 9223372036854775808 ≤ F <;> by_cases d4 : 32767 ≤ P <;> simp [d1, d2, d3, d4] <;> omega
/-- which operation the reference's number o is -/
def kOf (o : Nat) : Nat := if o = 0 then 0 else if o = 1 ∨ o = 2 then 1 else if o = 3 then 2 else if o = 6 then 4 else 3
/-- the second operand as it stands in the row: its sign turned for a difference -/
def turnB (o : Nat) (B : Re) : Bool := if o = 1 ∨ o = 2 then !B.1 else B.1
theorem wrong_M {τ : St} {o w : Nat} {A B : Re} (ho : o ≤ 6) (hwd : gI τ 16 35 = nI w) (hw : w < 65536) (hA : OpIs τ 0 A.1 A.2.1 A.2.2) (hB : OpIs τ 1 (turnB o B) B.2.1 B.2.2) : f_MO_isWrong τ (nI o) = wrongS (kOf o) w A B := by
  have j0 : jat 0 = 0 := by decide
  have j1 : jat 1 = 1 := by decide
  have c : (nI w &&& 4096 = 0) ↔ ¬ w / 4096 % 2 = 1 := nI_bit hw (i := 12) (by decide)
  have t1 : (if nI w &&& 4096 = 0 then true else false) = one2 w := by
    unfold one2
    simp only [c]
    by_cases d : w / 4096 % 2 = 1
    · simp [d]
    · have : w / 4096 % 2 = 0 := by omega
      simp [this]
  unfold f_MO_isWrong f_MO_isWrong_b40 f_MO_isWrong_b133 f_MO_isWrong_b171 f_MO_isWrong_b187 wrongS
  simp only [hwd, t1, endless_M j0 hA, endless_M j1 hB, nil_M j0 hA, nil_M j1 hB, unnorm_M j0 hA, unnorm_M j1 hB, j0, j1, hA.1, hB.1]
  generalize isInf A.2.1 A.2.2 = ia
  generalize isInf B.2.1 B.2.2 = ib
  generalize isNil A.2.1 A.2.2 = na
  generalize isNil B.2.1 B.2.2 = nb
  generalize isUnn A.2.1 A.2.2 = ua
  generalize isUnn B.2.1 B.2.2 = ub
  generalize one2 w = o2
  unfold turnB
  generalize A.1 = ma
  generalize B.1 = mb
  have k7 : o = 0 ∨ o = 1 ∨ o = 2 ∨ o = 3 ∨ o = 4 ∨ o = 5 ∨ o = 6 := by omega
  rcases k7 with rfl | rfl | rfl | rfl | rfl | rfl | rfl
  · cases ia <;> cases ib <;> cases o2 <;> cases ma <;> cases mb <;> rfl
  · cases ia <;> cases ib <;> cases o2 <;> cases ma <;> cases mb <;> rfl
  · cases ia <;> cases ib <;> cases o2 <;> cases ma <;> cases mb <;> rfl
  · cases ia <;> cases ib <;> cases na <;> cases nb <;> rfl
  · cases ia <;> cases ib <;> cases na <;> cases nb <;> cases ub <;> rfl
  · cases ia <;> cases ib <;> cases na <;> cases nb <;> cases ub <;> rfl
  · cases ia <;> cases na <;> cases ua <;> cases o2 <;> cases ma <;> rfl
