/-! numbers in their rows -/
theorem lo_p {x : Int32} (h : 0 ≤ x) : 0 ≤ x.toInt := by simpa using Int32.le_iff_toInt_le.mp h
theorem lo_n {x : Int32} (h : ¬ x < 0) : 0 ≤ x.toInt := lo_p (Int32.not_lt.mp h)
theorem hi_p {x B : Int32} {n : Nat} (h : x < B) (hB : B.toInt ≤ n) : x.toInt < n := by
  have := Int32.lt_iff_toInt_lt.mp h
  omega
theorem hi_n {x B : Int32} {n : Nat} (h : ¬ B ≤ x) (hB : B.toInt ≤ n) : x.toInt < n := hi_p (Int32.not_le.mp h) hB
theorem vin_of {x : Int32} {n : Nat} (h0 : 0 ≤ x.toInt) (h1 : x.toInt < n) : vp_in x n := vp_in_iff.mpr ⟨h0, h1⟩
theorem place_in (σ : St) (k : Int32) : vp_in (f_PS_place σ k) 8 := by
  unfold f_PS_place
  exact pk_andIn _ 3 rfl (by decide)
theorem kind_in (σ : St) (o : Nat) : vp_in (f_Real_kind σ o) 6 := by
  unfold f_Real_kind
  simp only []
  (repeat' split) <;> (unfold vp_in; decide)
theorem st_in {x a : Int32} (hx : vp_in x 8) (ha : vp_in a 8) : vp_in (jrem (x + a) 8) 8 := by
  obtain ⟨j, hj, rfl⟩ := vp_in_of hx (by decide)
  obtain ⟨k, hk, rfl⟩ := vp_in_of ha (by decide)
  have e : jrem (nI j + nI k) 8 = nI ((j + k) % 8) := by
    rw [nI_add]
    exact pk_rem (d := 8) (by omega) (by decide) (by decide)
  rw [e]
  exact vp_in_nI (Nat.mod_lt _ (by decide)) (by decide)
theorem ix88 {x a : Int32} (hx : vp_in x 8) (ha : vp_in a 8) : vp_in (x * 8 + a) 64 := by
  obtain ⟨j, hj, rfl⟩ := vp_in_of hx (by decide)
  obtain ⟨k, hk, rfl⟩ := vp_in_of ha (by decide)
  have e : nI j * 8 + nI k = nI (j * 8 + k) := by
    rw [← nI_add, ← pk_mul]
    rfl
  rw [e]
  exact vp_in_nI (by omega) (by decide)
theorem vin93 {x : Int32} (h : vp_in x 93) : vp_in x 94 := by
  obtain ⟨h1, h2⟩ := vp_in_iff.mp h
  exact vin_of h1 (by omega)
theorem vin93s {x : Int32} (h : vp_in x 93) : vp_in (x + 1) 94 := by
  obtain ⟨j, hj, rfl⟩ := vp_in_of h (by decide)
  rw [nI_1]
  exact vp_in_nI (by omega) (by decide)
/-! loops that count up, or down -/
theorem i32_add {x y : Int32} (h1 : -2147483648 ≤ x.toInt + y.toInt) (h2 : x.toInt + y.toInt < 2147483648) : (x + y).toInt = x.toInt + y.toInt := by
  rw [Int32.toInt_add, Int.bmod_eq_of_le (by omega) (by omega)]
theorem i32_lt (x : Int32) : x.toInt < 2147483648 := by
  have := Int32.toInt_lt x
  omega
theorem i32_ge (x : Int32) : -2147483648 ≤ x.toInt := Int32.le_toInt x
theorem lph_mu {T : Type} (b : T → Bool × T) (I : T → Prop) (μ : T → Nat) (hs : ∀ t t1, I t → b t = (true, t1) → I t1 ∧ μ t1 < μ t) : ∀ n t, I t → μ t < n → lph b n t = true := by
  intro n
  induction n with
  | zero => intro t _ h; omega
  | succ n ih =>
    intro t hi hm
    unfold lph
    match e : b t with
    | (false, t1) => rfl
    | (true, t1) =>
      obtain ⟨h1, h2⟩ := hs t t1 hi e
      exact ih t1 h1 (by omega)
/-- while x < B it grows by one -/
theorem up_step {x y B : Int32} (h : x < B) (e : y = x + 1) : y.toInt = x.toInt + 1 ∧ x.toInt < B.toInt := by
  have h1 := Int32.lt_iff_toInt_lt.mp h
  have h2 := i32_lt B
  have h3 := i32_ge x
  have e1 : (1 : Int32).toInt = 1 := by decide
  subst e
  refine ⟨?_, h1⟩
  rw [i32_add (by omega) (by omega), e1]
theorem up_halt {T : Type} {b : T → Bool × T} (cnt : T → Int32) (B : Int32) (hs : ∀ t t1, b t = (true, t1) → cnt t < B ∧ cnt t1 = cnt t + 1) (t : T) : lph b (upf B (cnt t)) t = true := by
  refine lph_mu b (fun _ => True) (fun t => (B.toInt - (cnt t).toInt).toNat) (fun t t1 _ e => ?_) _ t trivial (by unfold upf; omega)
  obtain ⟨h1, h2⟩ := hs t t1 e
  obtain ⟨h3, h4⟩ := up_step h1 h2
  exact ⟨trivial, by omega⟩
theorem up_inv {T : Type} {b : T → Bool × T} (cnt : T → Int32) (B : Int32) (lo : Int) (hs : ∀ t t1, b t = (true, t1) → cnt t < B ∧ cnt t1 = cnt t + 1) : ∀ t t1, lo ≤ (cnt t).toInt → b t = (true, t1) → lo ≤ (cnt t1).toInt := by
  intro t t1 hi e
  obtain ⟨h1, h2⟩ := hs t t1 e
  obtain ⟨h3, h4⟩ := up_step h1 h2
  omega
/-- the form of a counting loop's body: its end first -/
theorem lp_form {T : Type} {b : T → Bool × T} {C : T → Prop} {dC : ∀ t, Decidable (C t)} {F N : T → T} (hb : ∀ t, b t = @ite _ (C t) (dC t) (false, F t) (true, N t)) {t t1 : T} (e : b t = (true, t1)) : ¬ C t ∧ t1 = N t := by
  rw [hb] at e
  by_cases h : C t
  · rw [if_pos h] at e
    cases e
  · rw [if_neg h] at e
    exact ⟨h, (Prod.mk.inj e).2.symm⟩
theorem up_of {T : Type} {b : T → Bool × T} {C : T → Prop} {dC : ∀ t, Decidable (C t)} {F N : T → T} (hb : ∀ t, b t = @ite _ (C t) (dC t) (false, F t) (true, N t)) (cnt : T → Int32) (B : Int32) (hC : ∀ t, C t = (B ≤ cnt t)) (hN : ∀ t, cnt (N t) = cnt t + 1) : ∀ t t1, b t = (true, t1) → cnt t < B ∧ cnt t1 = cnt t + 1 := by
  intro t t1 e
  obtain ⟨h1, h2⟩ := lp_form hb e
  rw [hC] at h1
  exact ⟨Int32.not_le.mp h1, by rw [h2, hN]⟩
/-- counting down to 0 -/
theorem dn_step {x y : Int32} (h : ¬ x < 0) (e : y = x + (-1)) : y.toInt = x.toInt - 1 ∧ 0 ≤ x.toInt := by
  have h1 := lo_n h
  have h2 := i32_lt x
  have e1 : (-1 : Int32).toInt = -1 := by decide
  subst e
  refine ⟨?_, h1⟩
  rw [i32_add (by omega) (by omega), e1]
  omega
theorem dn_of {T : Type} {b : T → Bool × T} {C : T → Prop} {dC : ∀ t, Decidable (C t)} {F N : T → T} (hb : ∀ t, b t = @ite _ (C t) (dC t) (false, F t) (true, N t)) (cnt : T → Int32) (hC : ∀ t, C t = (cnt t < 0)) (hN : ∀ t, cnt (N t) = cnt t + (-1)) : ∀ t t1, b t = (true, t1) → ¬ cnt t < 0 ∧ cnt t1 = cnt t + (-1) := by
  intro t t1 e
  obtain ⟨h1, h2⟩ := lp_form hb e
  rw [hC] at h1
  exact ⟨h1, by rw [h2, hN]⟩
theorem dn_halt {T : Type} {b : T → Bool × T} (cnt : T → Int32) (hs : ∀ t t1, b t = (true, t1) → ¬ cnt t < 0 ∧ cnt t1 = cnt t + (-1)) (t : T) : lph b (dnf (cnt t)) t = true := by
  refine lph_mu b (fun _ => True) (fun t => ((cnt t).toInt + 1).toNat) (fun t t1 _ e => ?_) _ t trivial (by unfold dnf; omega)
  obtain ⟨h1, h2⟩ := hs t t1 e
  obtain ⟨h3, h4⟩ := dn_step h1 h2
  exact ⟨trivial, by omega⟩
theorem dn_inv {T : Type} {b : T → Bool × T} (cnt : T → Int32) (hi : Int) (hs : ∀ t t1, b t = (true, t1) → ¬ cnt t < 0 ∧ cnt t1 = cnt t + (-1)) : ∀ t t1, (cnt t).toInt ≤ hi → b t = (true, t1) → (cnt t1).toInt ≤ hi := by
  intro t t1 h0 e
  obtain ⟨h1, h2⟩ := hs t t1 e
  obtain ⟨h3, h4⟩ := dn_step h1 h2
  omega
theorem hi_le {x : Int32} {n : Nat} {k : Int} (h : x.toInt ≤ k) (hk : k < n) : x.toInt < n := by omega
