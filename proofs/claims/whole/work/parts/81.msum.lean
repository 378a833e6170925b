/-! the reference's sums and products -/
def OpIs (τ : St) (i : Nat) (m : Bool) (P F : Nat) : Prop := gZ τ 106 i = m ∧ gI τ 107 i = nI P ∧ P ≤ 32767 ∧ uN (gJ τ 108 i) = F
theorem unit_M {τ : St} {a : Int32} {P : Nat} (h : gI τ 107 (jat a) = nI P) (hP : P ≤ 32767) : (f_MO_unitOf τ a).toInt = unitN P := by
  have e1 : (16446 : Int32).toInt = 16446 := by decide
  have e2 : (1 : Int32).toInt = 1 := by decide
  unfold f_MO_unitOf unitN
  rw [h]
  by_cases c : P = 0
  · subst c
    have : nI 0 = (0 : Int32) := rfl
    simp only [this, if_true]
    rw [i32_subT (by omega) (by omega), e1, e2]
  · have c2 : ¬ nI P = 0 := nI_ne0 (by omega) (by omega)
    have e3 : (nI P).toInt = P := nI_toInt (by omega)
    simp only [c2, c, if_false]
    rw [i32_subT (by omega) (by omega), e1, e3]
/-- the row's head: size, unit, more, bits -/
def rowst (τ : St) (n lo : Int32) (m : Bool) (r : Nat → Bool) : St := setRow (sZ (sI (sI τ 18 35 n) 19 35 lo) 20 35 m) r
def Made (τ ρ : St) (t0 : Nat) (sg : Bool) (R : Nat × Int × Nat) : Prop := ∃ (n lo : Int32) (m : Bool) (r : Nat → Bool) (b : Bool) (pw : Int32) (F : Int64), ρ = mkst (rowst τ n lo m r) b (t0 + R.1) sg pw F ∧ pw.toInt = R.2.1 ∧ uN F = R.2.2
theorem mk0 {ρ : St} {t0 : Nat} (h : gI ρ 21 35 = nI t0) (sg : Bool) (p : Int32) (f : Int64) : f_MO_answer ρ sg p f = mkst ρ (gZ ρ 25 35) (t0 + 0) sg p f := by
  unfold mkst
  congr 1
  rw [Nat.add_zero, ← h]
  apply St_ext <;> intro k x <;> simp only [gI_sI, gI_sZ, gJ_sI, gJ_sZ, gZ_sI, gZ_sZ] <;> grind
theorem Made_make {τ : St} {n N w : Nat} {lo : Int32} {m : Bool} {r : Nat → Bool} {t0 : Nat} {sg : Bool} (hn : n ≤ 33000) (hr : rowN r n = N) (hN : N ≠ 0) (hwd : gI τ 16 35 = nI w) (hw : w < 65536) (hub : -38000 ≤ lo.toInt ∧ lo.toInt ≤ 38000) (hkb : -37000 ≤ lo.toInt + N.log2 ∧ lo.toInt + N.log2 ≤ 37000) (ht : gI τ 21 35 = nI t0) : Made τ (f_MO_make (rowst τ (nI n) lo m r) sg) t0 sg (SPz w (digitsOf w) sg N m lo.toInt) := by
  have h1 : RowIs (rowst τ (nI n) lo m r) n N := ⟨by simp [rowst, setRow_I, gI_sI, gI_sZ], hn, by rw [rowst, setRow_109]; exact hr⟩
  have h19 : gI (rowst τ (nI n) lo m r) 19 35 = lo := by simp [rowst, setRow_I, gI_sI, gI_sZ]
  have h20 : gZ (rowst τ (nI n) lo m r) 20 35 = m := by simp [rowst, setRow_Z, gZ_sZ]
  obtain ⟨b, pw, F, c1, c2, c3⟩ := make_M h1 hN (show gI (rowst τ (nI n) lo m r) 16 35 = nI w from hwd) hw (by rw [h19]) hub hkb (show gI (rowst τ (nI n) lo m r) 21 35 = nI t0 from ht) sg _ rfl
  rw [h20] at c1 c2 c3
  exact ⟨nI n, lo, m, r, b, pw, F, c1, c2, c3⟩
theorem Made_zero {τ : St} {n : Int32} {lo : Int32} {m : Bool} {r : Nat → Bool} {t0 w d : Nat} {sg s : Bool} {e : Int} (ht : gI τ 21 35 = nI t0) : Made τ (f_MO_answer (rowst τ n lo m r) sg 0 0) t0 sg (SPz w d sg 0 s e) := by
  refine ⟨n, lo, m, r, gZ (rowst τ n lo m r) 25 35, 0, 0, ?_, ?_, ?_⟩
  · have : (SPz w d sg 0 s e).1 = 0 := by unfold SPz; rw [if_pos rfl]
    rw [this]
    exact mk0 (show gI (rowst τ n lo m r) 21 35 = nI t0 from ht) sg 0 0
  · unfold SPz
    rw [if_pos rfl]
    rfl
  · unfold SPz
    rw [if_pos rfl]
    rfl
/-! which one is less -/
theorem mul_tb (F x k : Nat) : (F * 2 ^ x).testBit k = (decide (x ≤ k) && F.testBit (k - x)) := Nat.testBit_mul_two_pow F k x
theorem lt_succ_bit (A B k : Nat) : (A % 2 ^ (k + 1) < B % 2 ^ (k + 1)) ↔ (if A.testBit k = B.testBit k then A % 2 ^ k < B % 2 ^ k else B.testBit k = true) := by
  have h1 := Nat.mod_lt A (pow_pos2 k)
  have h2 := Nat.mod_lt B (pow_pos2 k)
  rw [mod_succ, mod_succ]
  cases A.testBit k <;> cases B.testBit k <;> simp <;> omega
theorem lessbit {f : Int64} {x k : Nat} (hx : x < 40000) (hk : k < 80000) : (if nI k < nI x then false else if 64 ≤ nI k - nI x then false else if jlshr f (nI k - nI x) &&& 1 = 1 then true else false) = (uN f * 2 ^ x).testBit k := by
  rw [mul_tb]
  by_cases c1 : k < x
  · have c2 : nI k < nI x := nI_lt c1 (by omega)
    have c3 : ¬ x ≤ k := by omega
    rw [if_pos c2]
    simp [c3]
  · have c2 : ¬ nI k < nI x := nI_nlt (by omega) (by omega)
    have c3 : x ≤ k := by omega
    have e1 : nI k - nI x = nI (k - x) := pk_sub c3
    rw [if_neg c2, e1, decide_eq_true c3, Bool.true_and]
    by_cases c4 : 64 ≤ k - x
    · have c5 : (64 : Int32) ≤ nI (k - x) := nI_le (a := 64) c4 (by omega)
      rw [if_pos c5]
      symm
      apply Nat.testBit_lt_two_pow
      exact Nat.lt_of_lt_of_le (uN_lt2 f) (Nat.pow_le_pow_right (by decide) c4)
    · have c5 : ¬ (64 : Int32) ≤ nI (k - x) := nI_ge (b := 64) (by omega) (by decide)
      rw [if_neg c5]
      simp only [bit1 f (k - x) rfl (by omega)]
      cases (uN f).testBit (k - x) <;> rfl
theorem isLess_loop (τ : St) (x y : Nat) (hx : x < 40000) (hy : y < 40000) : (lpn (b_MO_isLess_49 τ (nI x) (nI y)) (upf ((if nI y ≤ nI x then nI x else nI y) + 64) 0) (0, false)).2 = decide (uN (gJ τ 108 0) * 2 ^ x < uN (gJ τ 108 1) * 2 ^ y) := by
  have j0 : jat 0 = 0 := by decide
  have j1 : jat 1 = 1 := by decide
  obtain ⟨M, hM, hMx, hMy, hMl⟩ : ∃ M : Nat, (if nI y ≤ nI x then nI x else nI y) + 64 = nI (M + 64) ∧ x ≤ M ∧ y ≤ M ∧ M < 40000 := by
    by_cases c : y ≤ x
    · refine ⟨x, ?_, Nat.le_refl _, c, hx⟩
      rw [if_pos (nI_le c (by omega))]
      exact nI_add x 64
    · refine ⟨y, ?_, by omega, Nat.le_refl _, hy⟩
      rw [if_neg (nI_ge (by omega) (by omega))]
      exact nI_add y 64
  rw [hM]
  have f0 := uN_lt2 (gJ τ 108 0)
  have f1 := uN_lt2 (gJ τ 108 1)
  have big : ∀ F z : Nat, F < 2 ^ 64 → z ≤ M → F * 2 ^ z < 2 ^ (M + 64) := fun F z hF hz => by
    have : (2 : Nat) ^ (M + 64) = 2 ^ 64 * 2 ^ M := by rw [← Nat.pow_add]; congr 1; omega
    rw [this]
    exact Nat.lt_of_lt_of_le (Nat.mul_lt_mul_of_pos_right hF (pow_pos2 z)) (Nat.mul_le_mul_left _ (Nat.pow_le_pow_right (by decide) hz))
  generalize hA : uN (gJ τ 108 0) * 2 ^ x = A at *
  generalize hB : uN (gJ τ 108 1) * 2 ^ y = B at *
  have bA : A < 2 ^ (M + 64) := by rw [← hA]; exact big _ _ f0 hMx
  have bB : B < 2 ^ (M + 64) := by rw [← hB]; exact big _ _ f1 hMy
  refine lpn_P (b := b_MO_isLess_49 τ (nI x) (nI y)) (fun i t => t = (nI i, decide (A % 2 ^ i < B % 2 ^ i))) (fun y => y.2 = decide (A < B)) (M + 64) ?_ ?_ ?_ ?_
  · intro i t hi et
    subst et
    refine ⟨_, ?_, rfl⟩
    unfold b_MO_isLess_49
    have c : ¬ nI (M + 64) ≤ nI i := nI_ge hi (by omega)
    simp only [hM, c, if_false, nI_1, j0, j1, lessbit hx (show i < 80000 by omega), lessbit hy (show i < 80000 by omega), hA, hB]
    congr 2
    have := lt_succ_bit A B i
    by_cases e : A.testBit i = B.testBit i
    · rw [if_pos e] at this ⊢
      simp only [this]
    · rw [if_neg e] at this ⊢
      simp only [this]
      cases B.testBit i <;> rfl
  · intro t et
    subst et
    refine ⟨(nI (M + 64), decide (A % 2 ^ (M + 64) < B % 2 ^ (M + 64))), ?_, ?_⟩
    · unfold b_MO_isLess_49
      have c : nI (M + 64) ≤ nI (M + 64) := nI_le (Nat.le_refl _) (by omega)
      simp only [hM, c, if_true]
    · rw [Nat.mod_eq_of_lt bA, Nat.mod_eq_of_lt bB]
  · unfold upf
    have e1 : (nI (M + 64)).toInt = ((M + 64 : Nat) : Int) := nI_toInt (by omega)
    have e2 : (0 : Int32).toInt = 0 := rfl
    rw [e1, e2]
    omega
  · have a0 : A % 2 ^ 0 = 0 := Nat.mod_one _
    have b0 : B % 2 ^ 0 = 0 := Nat.mod_one _
    rw [a0, b0]
    rfl
