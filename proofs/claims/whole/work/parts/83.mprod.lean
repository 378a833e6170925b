/-! the reference's product -/
theorem prod_M {τ : St} {A B : Re} {w t0 : Nat} {sg : Bool} (hA : OpIs τ 0 A.1 A.2.1 A.2.2) (hB : OpIs τ 1 B.1 B.2.1 B.2.2) (hwd : gI τ 16 35 = nI w) (hw : w < 65536) (ht : gI τ 21 35 = nI t0) :
    Made τ (f_MO_product τ sg) t0 sg (SPz w (digitsOf w) sg (A.2.2 * B.2.2) false (unitN A.2.1 + unitN B.2.1)) := by
  have j0 : jat 0 = 0 := by decide
  have j1 : jat 1 = 1 := by decide
  have u0 := unit_M (τ := τ) (a := 0) (P := A.2.1) hA.2.1 hA.2.2.1
  have u1 := unit_M (τ := τ) (a := 1) (P := B.2.1) hB.2.1 hB.2.2.1
  have r0 := unitN_rng hA.2.2.1
  have r1 := unitN_rng hB.2.2.1
  have fa := uN_lt2 (gJ τ 108 0)
  have fb := uN_lt2 (gJ τ 108 1)
  rw [hA.2.2.2] at fa
  rw [hB.2.2.2] at fb
  have lo1 : (f_MO_unitOf τ 0 + f_MO_unitOf τ 1).toInt = unitN A.2.1 + unitN B.2.1 := by rw [i32_addT (by omega) (by omega), u0, u1]
  generalize hlo : f_MO_unitOf τ 0 + f_MO_unitOf τ 1 = lo at *
  rw [← lo1]
  obtain ⟨rr, hrr⟩ : ∃ rr : Nat → Bool, rr = (fun o => if o < 130 then false else gZ τ 109 o) := ⟨_, rfl⟩
  have n130 : (130 : Int32) = nI 130 := rfl
  have em : f_MO_empty τ 130 lo = rowst τ (nI 130) lo false rr := by rw [hrr, n130]; exact empty_M τ 130 (by omega) lo
  have rz : rowN rr 130 = 0 := by rw [hrr]; exact row_0 _ _
  have hle : ∀ i, A.2.2 * (B.2.2 % 2 ^ i) < 2 ^ 130 := fun i => by
    have h1 : B.2.2 % 2 ^ i ≤ B.2.2 := Nat.mod_le _ _
    have h2 : A.2.2 * (B.2.2 % 2 ^ i) ≤ (2 ^ 64) * (2 ^ 64) := Nat.mul_le_mul (by omega) (by omega)
    have e : (2 : Nat) ^ 64 * 2 ^ 64 < 2 ^ 130 := by decide
    exact Nat.lt_of_le_of_lt h2 e
  obtain ⟨r, hl, hr⟩ : ∃ r : Nat → Bool, (lpn b_MO_product_20 (upf 64 0) (0, rowst τ (nI 130) lo false rr)).2 = rowst τ (nI 130) lo false r ∧ rowN r 130 = A.2.2 * B.2.2 := by
    refine lpn_P (b := b_MO_product_20) (fun i t => ∃ r : Nat → Bool, t = (nI i, rowst τ (nI 130) lo false r) ∧ rowN r 130 = A.2.2 * (B.2.2 % 2 ^ i)) (fun y => ∃ r : Nat → Bool, y.2 = rowst τ (nI 130) lo false r ∧ rowN r 130 = A.2.2 * B.2.2) 64 ?_ ?_ (by decide) ⟨rr, rfl, by rw [rz]; show 0 = A.2.2 * (B.2.2 % 1); rw [Nat.mod_one, Nat.mul_zero]⟩
    · intro i t hi ⟨r, et, e1⟩
      subst et
      have c : ¬ (64 : Int32) ≤ nI i := nI_ge (b := 64) hi (by decide)
      have g1 : gJ (rowst τ (nI 130) lo false r) 108 (jat 1) = gJ τ 108 1 := by rw [j1]; rfl
      have g0 : gJ (rowst τ (nI 130) lo false r) 108 (jat 0) = gJ τ 108 0 := by rw [j0]; rfl
      have bt : (jlshr (gJ τ 108 1) (nI i) &&& 1 = 1) ↔ B.2.2.testBit i = true := by rw [bit1 _ i rfl hi, hB.2.2.2]
      have ms := mod_succ B.2.2 i
      by_cases b : B.2.2.testBit i = true
      · obtain ⟨r1, c1, c2⟩ := rowst_join τ 130 lo false r (gJ τ 108 0) i false (A.2.2 * (B.2.2 % 2 ^ i)) (A.2.2 * (B.2.2 % 2 ^ (i + 1))) (by decide) e1 (by omega) (by
          rw [hA.2.2.2, ms, b, Nat.mul_add]
          simp) (hle _)
        refine ⟨(nI (i + 1), rowst τ (nI 130) lo false r1), ?_, r1, rfl, c2⟩
        unfold b_MO_product_20
        simp only [c, if_false, g1, bt.mpr b, if_true, g0, c1, nI_1]
      · refine ⟨(nI (i + 1), rowst τ (nI 130) lo false r), ?_, r, rfl, ?_⟩
        · unfold b_MO_product_20
          have : ¬ (jlshr (gJ τ 108 1) (nI i) &&& 1 = 1) := fun q => b (bt.mp q)
          simp only [c, if_false, g1, this, nI_1]
        · have bf : B.2.2.testBit i = false := by simpa using b
          rw [e1, ms, bf]
          simp
    · intro t ⟨r, et, e1⟩
      subst et
      refine ⟨(nI 64, rowst τ (nI 130) lo false r), ?_, r, rfl, ?_⟩
      · unfold b_MO_product_20
        have c : (64 : Int32) ≤ nI 64 := by decide
        simp only [c, if_true]
      · rw [e1, Nat.mod_eq_of_lt fb]
  have hrow : RowIs (rowst τ (nI 130) lo false r) 130 (A.2.2 * B.2.2) := ⟨by simp [rowst, setRow_I, gI_sI, gI_sZ], by decide, by rw [rowst, setRow_109]; exact hr⟩
  unfold f_MO_product
  simp only [hlo, em, hl]
  rcases highest_M hrow with ⟨z, hh⟩ | ⟨z, hh, hlg⟩
  · have c : (-1 : Int32) < 0 := by decide
    rw [hh, if_pos c, z]
    exact Made_zero ht
  · have c : ¬ nI (A.2.2 * B.2.2).log2 < 0 := nI_pos (by omega)
    rw [hh, if_neg c]
    exact Made_make (by decide) hr z hwd hw ⟨by omega, by omega⟩ ⟨by omega, by omega⟩ ht
