/-! for the reference's methods -/
theorem lp_form2 {T : Type} {b : T → Bool × T} {C D : T → Prop} {dC : ∀ t, Decidable (C t)} {dD : ∀ t, Decidable (D t)} {F G N : T → T} (hb : ∀ t, b t = @ite _ (C t) (dC t) (false, F t) (@ite _ (D t) (dD t) (false, G t) (true, N t))) {t t1 : T} (e : b t = (true, t1)) : ¬ C t ∧ ¬ D t ∧ t1 = N t := by
  rw [hb] at e
  by_cases h : C t
  · rw [if_pos h] at e
    cases e
  · rw [if_neg h] at e
    by_cases h2 : D t
    · rw [if_pos h2] at e
      cases e
    · rw [if_neg h2] at e
      exact ⟨h, h2, (Prod.mk.inj e).2.symm⟩
theorem up_of2 {T : Type} {b : T → Bool × T} {C D : T → Prop} {dC : ∀ t, Decidable (C t)} {dD : ∀ t, Decidable (D t)} {F G N : T → T} (hb : ∀ t, b t = @ite _ (C t) (dC t) (false, F t) (@ite _ (D t) (dD t) (false, G t) (true, N t))) (cnt : T → Int32) (B : Int32) (hC : ∀ t, C t = (B ≤ cnt t)) (hN : ∀ t, cnt (N t) = cnt t + 1) : ∀ t t1, b t = (true, t1) → cnt t < B ∧ cnt t1 = cnt t + 1 := by
  intro t t1 e
  obtain ⟨h1, -, h2⟩ := lp_form2 hb e
  rw [hC] at h1
  exact ⟨Int32.not_le.mp h1, by rw [h2, hN]⟩
theorem dn_of2 {T : Type} {b : T → Bool × T} {C D : T → Prop} {dC : ∀ t, Decidable (C t)} {dD : ∀ t, Decidable (D t)} {F G N : T → T} (hb : ∀ t, b t = @ite _ (C t) (dC t) (false, F t) (@ite _ (D t) (dD t) (false, G t) (true, N t))) (cnt : T → Int32) (hC : ∀ t, C t = (cnt t < 0)) (hN : ∀ t, cnt (N t) = cnt t + (-1)) : ∀ t t1, b t = (true, t1) → ¬ cnt t < 0 ∧ cnt t1 = cnt t + (-1) := by
  intro t t1 e
  obtain ⟨h1, -, h2⟩ := lp_form2 hb e
  rw [hC] at h1
  exact ⟨h1, by rw [h2, hN]⟩
theorem up_ofv {T : Type} {b : T → Bool × T} {C : T → Prop} {dC : ∀ t, Decidable (C t)} {F N : T → T} (hb : ∀ t, b t = @ite _ (C t) (dC t) (false, F t) (true, N t)) (cnt B : T → Int32) (hC : ∀ t, C t = (B t ≤ cnt t)) (hN : ∀ t, cnt (N t) = cnt t + 1) (hB : ∀ t, B (N t) = B t) : ∀ t t1, b t = (true, t1) → cnt t < B t ∧ cnt t1 = cnt t + 1 ∧ B t1 = B t := by
  intro t t1 e
  obtain ⟨h1, h2⟩ := lp_form hb e
  rw [hC] at h1
  exact ⟨Int32.not_le.mp h1, by rw [h2, hN], by rw [h2, hB]⟩
theorem up_haltv {T : Type} {b : T → Bool × T} (cnt B : T → Int32) (hs : ∀ t t1, b t = (true, t1) → cnt t < B t ∧ cnt t1 = cnt t + 1 ∧ B t1 = B t) (t : T) : lph b (upf (B t) (cnt t)) t = true := by
  refine lph_mu b (fun _ => True) (fun t => ((B t).toInt - (cnt t).toInt).toNat) (fun t t1 _ e => ?_) _ t trivial (by unfold upf; omega)
  obtain ⟨h1, h2, h5⟩ := hs t t1 e
  obtain ⟨h3, h4⟩ := up_step h1 h2
  rw [h5]
  exact ⟨trivial, by omega⟩
theorem up_invv {T : Type} {b : T → Bool × T} (cnt B : T → Int32) (lo : Int) (hs : ∀ t t1, b t = (true, t1) → cnt t < B t ∧ cnt t1 = cnt t + 1 ∧ B t1 = B t) : ∀ t t1, lo ≤ (cnt t).toInt → b t = (true, t1) → lo ≤ (cnt t1).toInt := by
  intro t t1 hi e
  obtain ⟨h1, h2, -⟩ := hs t t1 e
  obtain ⟨h3, h4⟩ := up_step h1 h2
  omega
theorem hi_q {x B : Int32} {n : Nat} (h : x ≤ B) (hB : B.toInt < n) : x.toInt < n := by
  have := Int32.le_iff_toInt_le.mp h
  omega
theorem hi_m {x B : Int32} {n : Nat} (h : ¬ B < x) (hB : B.toInt < n) : x.toInt < n := hi_q (Int32.not_lt.mp h) hB
theorem div8 {x : Int32} (h : vp_in x 80) : vp_in (x / 8) 10 := by
  obtain ⟨j, hj, rfl⟩ := vp_in_of h (by decide)
  have e : nI j / 8 = nI (j / 8) := pk_div (d := 8) (by omega) (by decide) (by decide)
  rw [e]
  exact vp_in_nI (by omega) (by decide)
theorem b2 (t : Bool) : vp_in (bI t) 2 := by cases t <;> (unfold vp_in; decide)
theorem b2s (t : Bool) : vp_in (1 - bI t) 2 := by cases t <;> (unfold vp_in; decide)
theorem m22 {x : Int32} (h : vp_in x 8) : vp_in (22 + 10 * x) 93 := by
  obtain ⟨j, hj, rfl⟩ := vp_in_of h (by decide)
  have e : 22 + 10 * nI j = nI (22 + 10 * j) := by
    rw [← nI_add, ← pk_mul]
    rfl
  rw [e]
  exact vp_in_nI (by omega) (by decide)
theorem m14 {x y : Int32} (h : vp_in x 8) (h2 : vp_in y 8) : vp_in (14 + 10 * x + y) 94 := by
  obtain ⟨j, hj, rfl⟩ := vp_in_of h (by decide)
  obtain ⟨k, hk, rfl⟩ := vp_in_of h2 (by decide)
  have e : 14 + 10 * nI j + nI k = nI (14 + 10 * j + k) := by
    rw [← nI_add, ← nI_add, ← pk_mul]
    rfl
  rw [e]
  exact vp_in_nI (by omega) (by decide)
theorem cd_le {t : Bool} {τ : St} (h : gI (sI τ 0 30 (bI t)) 0 30 ≤ 0) : t = false := by
  cases t
  · rfl
  · exact absurd h (by show ¬ (1 : Int32) ≤ 0; decide)
theorem cd_l3 {t : Int32} {τ : St} (h : gI (sI τ 0 30 t) 0 30 ≤ 0) : t ≤ 0 := h
theorem rr8 {x : Int32} (h : 0 ≤ x.toInt) : vp_in (jrem (x / 8) 8) 8 := by
  obtain ⟨j, hj, rfl⟩ : ∃ j : Nat, j < 2 ^ 31 ∧ x = nI j := nI_of (fun q => by have := Int32.lt_iff_toInt_lt.mp q; have e0 : (0 : Int32).toInt = 0 := (by decide); omega)
  have e : nI j / 8 = nI (j / 8) := pk_div (d := 8) hj (by decide) (by decide)
  have e2 : jrem (nI (j / 8)) 8 = nI (j / 8 % 8) := pk_rem (d := 8) (by omega) (by decide) (by decide)
  rw [e, e2]
  exact vp_in_nI (Nat.mod_lt _ (by decide)) (by decide)
theorem ii8 {x : Int32} (h : 0 ≤ x.toInt) : vp_in (jrem x 8) 8 := by
  obtain ⟨j, hj, rfl⟩ : ∃ j : Nat, j < 2 ^ 31 ∧ x = nI j := nI_of (fun q => by have := Int32.lt_iff_toInt_lt.mp q; have e0 : (0 : Int32).toInt = 0 := (by decide); omega)
  have e2 : jrem (nI j) 8 = nI (j % 8) := pk_rem (d := 8) hj (by decide) (by decide)
  rw [e2]
  exact vp_in_nI (Nat.mod_lt _ (by decide)) (by decide)
theorem sz1 {x : Int32} (h : 0 ≤ x.toInt ∧ x.toInt ≤ 33000) : (x - 1).toInt ≤ 32999 := by
  have e1 : (x - 1).toInt = x.toInt - 1 := by
    rw [Int32.toInt_sub, Int.bmod_eq_of_le (by have : (1 : Int32).toInt = 1 := by decide
                                               omega) (by have : (1 : Int32).toInt = 1 := by decide
                                                          omega)]
    rfl
  omega
/-- doubling while above 0 -/
theorem dbl_halt {T : Type} {b : T → Bool × T} (cnt : T → Int64) (hs : ∀ t t1, b t = (true, t1) → ¬ cnt t ≤ 0 ∧ cnt t1 = 2 * cnt t) (t : T) : lph b (dblf (cnt t)) t = true := by
  refine lph_mu b (fun _ => True) (fun t => if (cnt t).toInt ≤ 0 then 0 else (9223372036854775808 - (cnt t).toInt).toNat) (fun t t1 _ e => ?_) _ t trivial ?_
  · obtain ⟨h1, h2⟩ := hs t t1 e
    have h3 := Int64.lt_iff_toInt_lt.mp (Int64.not_le.mp h1)
    have e0 : (0 : Int64).toInt = 0 := by decide
    have h4 := Int64.toInt_lt (cnt t)
    have h5 := Int64.toInt_lt (cnt t1)
    refine ⟨trivial, ?_⟩
    rw [if_neg (show ¬ (cnt t).toInt ≤ 0 by omega)]
    have e2 : (cnt t1).toInt = (2 * (cnt t).toInt).bmod (2 ^ 64) := by
      rw [h2, Int64.toInt_mul]
      rfl
    by_cases h6 : (cnt t1).toInt ≤ 0
    · rw [if_pos h6]
      omega
    · rw [if_neg h6]
      have h7 := Int.bmod_def (2 * (cnt t).toInt) (2 ^ 64)
      rw [← e2] at h7
      split at h7 <;> omega
  · unfold dblf
    split <;> omega
theorem dbl_of {T : Type} {b : T → Bool × T} {C : T → Prop} {dC : ∀ t, Decidable (C t)} {F N : T → T} (hb : ∀ t, b t = @ite _ (C t) (dC t) (false, F t) (true, N t)) (cnt : T → Int64) (hC : ∀ t, C t = (cnt t ≤ 0)) (hN : ∀ t, cnt (N t) = 2 * cnt t) : ∀ t t1, b t = (true, t1) → ¬ cnt t ≤ 0 ∧ cnt t1 = 2 * cnt t := by
  intro t t1 e
  obtain ⟨h1, h2⟩ := lp_form hb e
  rw [hC] at h1
  exact ⟨h1, by rw [h2, hN]⟩
/-- bit by bit: 1, 2, 4 .. -/
theorem two_step {T : Type} {b : T → Bool × T} {C : T → Prop} {dC : ∀ t, Decidable (C t)} {F N : T → T} (hb : ∀ t, b t = @ite _ (C t) (dC t) (false, F t) (true, N t)) (cnt : T → Int32) (B : Int32) (hB : B.toInt ≤ 64) (hC : ∀ t, C t = (B ≤ cnt t)) (hN : ∀ t, cnt (N t) = 2 * cnt t) : ∀ t t1, (0 < (cnt t).toInt ∧ (cnt t).toInt < 128) → b t = (true, t1) → (0 < (cnt t1).toInt ∧ (cnt t1).toInt < 128) ∧ (cnt t).toInt < (cnt t1).toInt := by
  intro t t1 hi e
  obtain ⟨h1, h2⟩ := lp_form hb e
  rw [hC] at h1
  have h3 := Int32.lt_iff_toInt_lt.mp (Int32.not_le.mp h1)
  have e2 : (cnt t1).toInt = 2 * (cnt t).toInt := by
    rw [h2, hN, Int32.toInt_mul, Int.bmod_eq_of_le (by have : (2 : Int32).toInt = 2 := by decide
                                                       rw [this]
                                                       omega) (by have : (2 : Int32).toInt = 2 := by decide
                                                                  rw [this]
                                                                  omega)]
    rfl
  omega
theorem two_halt {T : Type} {b : T → Bool × T} (cnt : T → Int32) (hs : ∀ t t1, (0 < (cnt t).toInt ∧ (cnt t).toInt < 128) → b t = (true, t1) → (0 < (cnt t1).toInt ∧ (cnt t1).toInt < 128) ∧ (cnt t).toInt < (cnt t1).toInt) (t : T) (h : 0 < (cnt t).toInt ∧ (cnt t).toInt < 128) : lph b 129 t = true := by
  refine lph_mu b (fun t => 0 < (cnt t).toInt ∧ (cnt t).toInt < 128) (fun t => (128 - (cnt t).toInt).toNat) (fun t t1 hi e => ?_) _ t h (by omega)
  obtain ⟨h1, h2⟩ := hs t t1 hi e
  exact ⟨h1, by omega⟩
theorem nz {x : Int32} (h : 0 < x.toInt ∧ x.toInt < 128) : ¬ x = 0 := fun e => by
  rw [e] at h
  exact absurd h.1 (by decide)
theorem lN_c63 : ∀ j : Nat, j < 64 → ((nI j).toInt64 &&& 63) = lN j := by decide
theorem lN_sm : ∀ j : Nat, j < 64 → ((lN j).toBitVec.smod 64).toNat = j := by decide
theorem jlshr_bv (w : Int64) {j : Nat} (hj : j < 64) : (jlshr w (nI j)).toBitVec = w.toBitVec.sshiftRight j := by
  unfold jlshr
  rw [lN_c63 j hj, Int64.toBitVec_shiftRight, BitVec.sshiftRight', lN_sm j hj]
theorem bit_sh {w : Int64} {j : Nat} (hj : j < 64) (hb : w.toBitVec.getLsbD j = true) (hc : jlshr w (nI j) &&& 1 = 0) : False := by
  have h1 : (jlshr w (nI j) &&& 1).toBitVec.getLsbD 0 = false := by rw [hc]; rfl
  rw [Int64.toBitVec_and, BitVec.getLsbD_and, jlshr_bv w hj, BitVec.getLsbD_sshiftRight] at h1
  have h2 : (1 : Int64).toBitVec.getLsbD 0 = true := by decide
  simp [h2, hj] at h1
  have h3 := BitVec.getLsbD_eq_getElem (x := w.toBitVec) hj
  rw [hb, h1] at h3
  cases h3
/-- the highest bit that is set is found -/
theorem bit_halt {w : Int64} (hw : ¬ w = 0) {b : Int32 → Bool × Int32} (hb : ∀ t, b t = if jlshr w t &&& 1 = 0 then (true, t + (-1)) else (false, t)) : lph b 65 63 = true := by
  have hx : ∃ j : Nat, j < 64 ∧ w.toBitVec.getLsbD j = true := by
    refine Classical.byContradiction (fun h => hw ?_)
    apply Int64.toBitVec_inj.mp
    apply BitVec.eq_of_getLsbD_eq
    intro i hi
    have := fun q => h ⟨i, hi, q⟩
    simpa using this
  obtain ⟨j, hj, hjb⟩ := hx
  refine lph_mu b (fun t => ∃ d : Nat, j ≤ d ∧ d < 64 ∧ t = nI d) (fun t => t.toInt.toNat) (fun t t1 hi e => ?_) 65 63 ⟨63, by omega, by omega, rfl⟩ (by decide)
  obtain ⟨d, h1, h2, rfl⟩ := hi
  rw [hb] at e
  by_cases hc : jlshr w (nI d) &&& 1 = 0
  · rw [if_pos hc] at e
    have e1 := (Prod.mk.inj e).2
    subst e1
    by_cases hjd : j = d
    · subst hjd
      exfalso
      exact bit_sh hj hjb hc
    · have e3 : nI d + (-1) = nI (d - 1) := by
        obtain ⟨k, rfl⟩ : ∃ k, d = k + 1 := ⟨d - 1, by omega⟩
        exact pk_m1 k
      refine ⟨⟨d - 1, by omega, by omega, e3⟩, ?_⟩
      rw [e3, nI_toInt (by omega), nI_toInt (by omega)]
      omega
  · rw [if_neg hc] at e
    cases e
theorem bz0 {b : Bool} (h : 0 = bI b) : b = false := by
  cases b
  · rfl
  · exact absurd h (by decide)
theorem m90 {a k : Int32} (h0 : 0 ≤ a.toInt) (h1 : a.toInt < 91) (hk : vp_in k 4) : vp_in (a + k) 94 := by
  obtain ⟨h2, h3⟩ := vp_in_iff.mp hk
  have e : (a + k).toInt = a.toInt + k.toInt := i32_add (by omega) (by omega)
  exact vin_of (by omega) (by omega)
