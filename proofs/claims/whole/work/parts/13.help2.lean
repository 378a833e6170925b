/-! more loops -/
/-- counting down to a number -/
theorem db_of {T : Type} {b : T → Bool × T} {C : T → Prop} {dC : ∀ t, Decidable (C t)} {F N : T → T} (hb : ∀ t, b t = @ite _ (C t) (dC t) (false, F t) (true, N t)) (cnt : T → Int32) (B : Int32) (hC : ∀ t, C t = (cnt t < B)) (hN : ∀ t, cnt (N t) = cnt t + (-1)) : ∀ t t1, b t = (true, t1) → ¬ cnt t < B ∧ cnt t1 = cnt t + (-1) := by
  intro t t1 e
  obtain ⟨h1, h2⟩ := lp_form hb e
  rw [hC] at h1
  exact ⟨h1, by rw [h2, hN]⟩
theorem db_halt {T : Type} {b : T → Bool × T} (cnt : T → Int32) (B : Int32) (hB : -2147483648 < B.toInt) (hs : ∀ t t1, b t = (true, t1) → ¬ cnt t < B ∧ cnt t1 = cnt t + (-1)) (t : T) : lph b (dbf B (cnt t)) t = true := by
  refine lph_mu b (fun _ => True) (fun t => ((cnt t).toInt - B.toInt + 1).toNat) (fun t t1 _ e => ?_) _ t trivial (by unfold dbf; omega)
  obtain ⟨h1, h2⟩ := hs t t1 e
  have h3 := Int32.le_iff_toInt_le.mp (Int32.not_lt.mp h1)
  have h4 := i32_lt (cnt t)
  have e1 : (-1 : Int32).toInt = -1 := by decide
  have h5 : (cnt t1).toInt = (cnt t).toInt - 1 := by
    rw [h2, i32_add (by omega) (by omega), e1]
    omega
  exact ⟨trivial, by omega⟩
/-- halving down to 0 -/
theorem jshr1_toInt (x : Int32) : (jshr x 1).toInt = x.toInt / 2 := by
  have h := pk_shr x ((1 : Int32) &&& 31) 1 (by decide)
  unfold jshr
  rw [h, Int.shiftRight_eq_div_pow]
  rfl
theorem shr1_gt (x : Int32) : -2147483648 < (jshr x 1).toInt := by
  rw [jshr1_toInt]
  have := i32_ge x
  omega
theorem hv_of {T : Type} {b : T → Bool × T} {C : T → Prop} {dC : ∀ t, Decidable (C t)} {F N : T → T} (hb : ∀ t, b t = @ite _ (C t) (dC t) (false, F t) (true, N t)) (cnt : T → Int32) (hC : ∀ t, C t = (cnt t ≤ 0)) (hN : ∀ t, cnt (N t) = jshr (cnt t) 1) : ∀ t t1, b t = (true, t1) → ¬ cnt t ≤ 0 ∧ cnt t1 = jshr (cnt t) 1 := by
  intro t t1 e
  obtain ⟨h1, h2⟩ := lp_form hb e
  rw [hC] at h1
  exact ⟨h1, by rw [h2, hN]⟩
theorem hv_halt {T : Type} {b : T → Bool × T} (cnt : T → Int32) (hs : ∀ t t1, b t = (true, t1) → ¬ cnt t ≤ 0 ∧ cnt t1 = jshr (cnt t) 1) (n : Nat) (hn : 0 < n) (t : T) (h : (cnt t).toInt < n) : lph b n t = true := by
  by_cases h0 : (cnt t).toInt < 0
  · cases n with
    | zero => omega
    | succ n =>
      unfold lph
      match e : b t with
      | (false, t1) => rfl
      | (true, t1) =>
        obtain ⟨h1, -⟩ := hs t t1 e
        have h2 := Int32.lt_iff_toInt_lt.mp (Int32.not_le.mp h1)
        have e0 : (0 : Int32).toInt = 0 := by decide
        omega
  · refine lph_mu b (fun _ => True) (fun t => (cnt t).toInt.toNat) (fun t t1 _ e => ?_) n t trivial (by omega)
    obtain ⟨h1, h2⟩ := hs t t1 e
    have h3 := Int32.lt_iff_toInt_lt.mp (Int32.not_le.mp h1)
    have e0 : (0 : Int32).toInt = 0 := by decide
    have h4 := jshr1_toInt (cnt t)
    rw [← h2] at h4
    exact ⟨trivial, by omega⟩
theorem gt0 {x : Int32} (h : vp_in x 93) : -2147483648 < x.toInt := by
  have := (vp_in_iff.mp h).1
  omega
theorem gt8 {x : Int32} (h : vp_in x 93) : -2147483648 < (x + 8).toInt := by
  obtain ⟨h1, h2⟩ := vp_in_iff.mp h
  have e : (8 : Int32).toInt = 8 := by decide
  rw [i32_add (by omega) (by omega)]
  omega
theorem r14 {x : Int32} (h : vp_in x 8) : vp_in (14 + x * 10) 93 := by
  obtain ⟨j, hj, rfl⟩ := vp_in_of h (by decide)
  have e : 14 + nI j * 10 = nI (14 + j * 10) := by
    rw [← nI_add, ← pk_mul]
    rfl
  rw [e]
  exact vp_in_nI (by omega) (by decide)
