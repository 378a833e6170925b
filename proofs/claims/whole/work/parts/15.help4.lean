/-! places of the reference's conversions and sums -/
theorem i32_sub {x y : Int32} (h1 : -2147483648 ≤ x.toInt - y.toInt) (h2 : x.toInt - y.toInt < 2147483648) : (x - y).toInt = x.toInt - y.toInt := by
  rw [Int32.toInt_sub, Int.bmod_eq_of_le (by omega) (by omega)]
theorem i32_mul {x y : Int32} (h1 : -2147483648 ≤ x.toInt * y.toInt) (h2 : x.toInt * y.toInt < 2147483648) : (x * y).toInt = x.toInt * y.toInt := by
  rw [Int32.toInt_mul, Int.bmod_eq_of_le (by omega) (by omega)]
theorem ti0 : (0 : Int32).toInt = 0 := by decide
theorem ti1 : (1 : Int32).toInt = 1 := by decide
theorem ti2 : (2 : Int32).toInt = 2 := by decide
theorem ti4 : (4 : Int32).toInt = 4 := by decide
theorem ti66 : (66 : Int32).toInt = 66 := by decide
theorem ti16446 : (16446 : Int32).toInt = 16446 := by decide
theorem m1_le {n : Int32} (h : 0 ≤ n.toInt) : (n - 1).toInt ≤ n.toInt - 1 := by
  have := i32_lt n
  rw [i32_sub (by rw [ti1]; omega) (by rw [ti1]; omega), ti1]
  omega
theorem bits_in {a n k : Int32} (h : 0 ≤ a.toInt ∧ 0 ≤ n.toInt ∧ a.toInt + n.toInt ≤ 80) (h0 : 0 ≤ k.toInt) (h1 : k.toInt ≤ n.toInt - 1) : vp_in (a + k) 80 := by
  have e : (a + k).toInt = a.toInt + k.toInt := i32_add (by omega) (by omega)
  exact vin_of (by omega) (by omega)
theorem setb_in {a n k : Int32} (h : 0 ≤ a.toInt ∧ 0 ≤ n.toInt ∧ a.toInt + n.toInt ≤ 80) (h0 : 0 ≤ k.toInt) (h1 : ¬ n ≤ k) : vp_in (a + k) 80 := by
  have h2 := Int32.lt_iff_toInt_lt.mp (Int32.not_le.mp h1)
  exact bits_in h h0 (by omega)
theorem pk_s {a b : Int32} (h : (a = 24 ∧ b = 8) ∨ (a = 53 ∧ b = 11)) : 0 ≤ (0 : Int32).toInt ∧ 0 ≤ (a - 1).toInt ∧ (0 : Int32).toInt + (a - 1).toInt ≤ 80 := by
  rcases h with ⟨rfl, rfl⟩ | ⟨rfl, rfl⟩ <;> decide
theorem pk_e {a b : Int32} (h : (a = 24 ∧ b = 8) ∨ (a = 53 ∧ b = 11)) : 0 ≤ (a - 1).toInt ∧ 0 ≤ b.toInt ∧ (a - 1).toInt + b.toInt ≤ 80 := by
  rcases h with ⟨rfl, rfl⟩ | ⟨rfl, rfl⟩ <;> decide
theorem pk_b {a b : Int32} (h : (a = 24 ∧ b = 8) ∨ (a = 53 ∧ b = 11)) : vp_in (a - 1 + b) 80 := by
  rcases h with ⟨rfl, rfl⟩ | ⟨rfl, rfl⟩ <;> (unfold vp_in; decide)
theorem pk_k {a b k : Int32} (h : (a = 24 ∧ b = 8) ∨ (a = 53 ∧ b = 11)) (h0 : 0 ≤ k.toInt) (h1 : ¬ (a - 1) ≤ k) : vp_in k 80 := by
  have h2 := Int32.lt_iff_toInt_lt.mp (Int32.not_le.mp h1)
  have h3 : (a - 1).toInt ≤ 80 := by rcases h with ⟨rfl, rfl⟩ | ⟨rfl, rfl⟩ <;> decide
  exact vin_of h0 (by omega)
theorem z80 {a : Int32} (h : 0 ≤ a.toInt ∧ a.toInt ≤ 80) : 0 ≤ (0 : Int32).toInt ∧ 0 ≤ a.toInt ∧ (0 : Int32).toInt + a.toInt ≤ 80 := by
  rw [ti0]
  omega
theorem k4 {k : Int32} (h0 : 0 ≤ k.toInt) (h1 : k.toInt ≤ 17) : 0 ≤ (4 * k).toInt ∧ 0 ≤ (4 : Int32).toInt ∧ (4 * k).toInt + (4 : Int32).toInt ≤ 80 := by
  have e : (4 * k).toInt = 4 * k.toInt := by
    rw [i32_mul (by rw [ti4]; omega) (by rw [ti4]; omega), ti4]
  rw [e, ti4]
  omega
theorem le17 {k : Int32} (h : ¬ 18 ≤ k) : k.toInt ≤ 17 := by
  have h2 := Int32.lt_iff_toInt_lt.mp (Int32.not_le.mp h)
  have e : (18 : Int32).toInt = 18 := by decide
  omega
theorem cd_k {t : Int32} {τ : St} {k o : Nat} (h : gI (sI τ k o t) k o ≤ 0) : t ≤ 0 := by
  rw [gI_sI, if_pos rfl, if_pos rfl] at h
  exact h
theorem vin28 {x : Int32} (h : vp_in x 2) : vp_in x 8 := by
  obtain ⟨h1, h2⟩ := vp_in_iff.mp h
  exact vin_of h1 (by omega)
theorem vin10 {x : Int32} (h : vp_in x 10) : vp_in x 94 := by
  obtain ⟨h1, h2⟩ := vp_in_iff.mp h
  exact vin_of h1 (by omega)
theorem rem_p15 {x : Int32} (h : 0 ≤ x.toInt) : 0 ≤ (jrem x 32768).toInt ∧ (jrem x 32768).toInt ≤ 32767 := by
  obtain ⟨j, hj, rfl⟩ : ∃ j : Nat, j < 2 ^ 31 ∧ x = nI j := nI_of (fun q => by have := Int32.lt_iff_toInt_lt.mp q; rw [ti0] at this; omega)
  have e2 : jrem (nI j) 32768 = nI (j % 32768) := pk_rem (d := 32768) hj (by decide) (by decide)
  rw [e2, nI_toInt (by omega)]
  omega
theorem jat2 {i : Int32} (h : vp_in i 2) : jat i = 0 ∨ jat i = 1 := by
  have h2 : i.toNatClampNeg < 2 := by
    unfold vp_in at h
    omega
  unfold jat
  omega
theorem tk_pow {τ : St} {i : Int32} (h : 0 ≤ (gI τ 104 0).toInt ∧ 0 ≤ (gI τ 104 1).toInt) (hq : vp_in i 2) : 0 ≤ (jrem (gI τ 104 (jat i)) 32768).toInt ∧ (jrem (gI τ 104 (jat i)) 32768).toInt ≤ 32767 := by
  rcases jat2 hq with e | e <;> rw [e]
  · exact rem_p15 h.1
  · exact rem_p15 h.2
theorem uo_rng {τ : St} (hP : InvP τ) {i : Int32} (hi : vp_in i 2) : -16445 ≤ (f_MO_unitOf τ i).toInt ∧ (f_MO_unitOf τ i).toInt ≤ 16321 := by
  obtain ⟨-, ⟨h1, h2⟩, h3, h4⟩ := hP
  have h5 : 0 ≤ (gI τ 107 (jat i)).toInt ∧ (gI τ 107 (jat i)).toInt ≤ 32767 := by
    rcases jat2 hi with e | e <;> rw [e]
    · exact ⟨h1, h2⟩
    · exact ⟨h3, h4⟩
  unfold f_MO_unitOf
  simp only []
  split
  · rw [i32_sub (by rw [ti1, ti16446]; omega) (by rw [ti1, ti16446]; omega), ti1, ti16446]
    omega
  · rename_i h6
    have h7 : (gI τ 107 (jat i)).toInt ≠ 0 := fun q => h6 (Int32.toInt_inj.mp (by rw [q, ti0]))
    rw [i32_sub (by rw [ti16446]; omega) (by rw [ti16446]; omega), ti16446]
    omega
theorem sum_lo {τ : St} {t1 : Int32} (e1 : (if (f_MO_unitOf τ 1) ≤ (f_MO_unitOf τ 0) then f_MO_unitOf τ 1 else f_MO_unitOf τ 0) = t1) : (t1 = f_MO_unitOf τ 1 ∧ t1.toInt ≤ (f_MO_unitOf τ 0).toInt) ∨ (t1 = f_MO_unitOf τ 0 ∧ t1.toInt ≤ (f_MO_unitOf τ 1).toInt) := by
  split at e1
  · rename_i h
    exact Or.inl ⟨e1.symm, e1 ▸ Int32.le_iff_toInt_le.mp h⟩
  · rename_i h
    have := Int32.lt_iff_toInt_lt.mp (Int32.not_le.mp h)
    exact Or.inr ⟨e1.symm, by rw [← e1]; omega⟩
theorem v01 : vp_in 0 2 := by unfold vp_in; decide
theorem v11 : vp_in 1 2 := by unfold vp_in; decide
theorem sum_sz {τ : St} {t1 v1 : Int32} (hP : InvP τ) (e1 : (if (f_MO_unitOf τ 1) ≤ (f_MO_unitOf τ 0) then f_MO_unitOf τ 1 else f_MO_unitOf τ 0) = t1) (e2 : ((f_MO_unitOf τ 0) + (f_MO_unitOf τ 1)) - (2 * t1) = v1) : 0 ≤ (v1 + 66).toInt ∧ (v1 + 66).toInt ≤ 33000 := by
  obtain ⟨a1, a2⟩ := uo_rng hP v01
  obtain ⟨b1, b2⟩ := uo_rng hP v11
  have hl := sum_lo e1
  have ht : -16445 ≤ t1.toInt ∧ t1.toInt ≤ 16321 := by
    rcases hl with ⟨h, -⟩ | ⟨h, -⟩ <;> rw [h] <;> constructor <;> assumption
  have q1 : ((f_MO_unitOf τ 0) + (f_MO_unitOf τ 1)).toInt = (f_MO_unitOf τ 0).toInt + (f_MO_unitOf τ 1).toInt := i32_add (by omega) (by omega)
  have q2 : (2 * t1).toInt = 2 * t1.toInt := by rw [i32_mul (by rw [ti2]; omega) (by rw [ti2]; omega), ti2]
  have q3 : v1.toInt = (f_MO_unitOf τ 0).toInt + (f_MO_unitOf τ 1).toInt - 2 * t1.toInt := by
    rw [← e2, i32_sub (by omega) (by omega), q1, q2]
  have q4 : (v1 + 66).toInt = v1.toInt + 66 := by rw [i32_add (by rw [ti66]; omega) (by rw [ti66]; omega), ti66]
  rcases hl with ⟨h, h2⟩ | ⟨h, h2⟩ <;> rw [h] at q3 h2 <;> omega
theorem sum_pl {τ s : St} {t1 i : Int32} (hP : InvP s) (e1 : (if (f_MO_unitOf τ 1) ≤ (f_MO_unitOf τ 0) then f_MO_unitOf τ 1 else f_MO_unitOf τ 0) = t1) (hi : vp_in i 2) (hs : ∀ j, gI s 107 j = gI τ 107 j) : 0 ≤ (f_MO_unitOf s i - t1).toInt := by
  have hu : ∀ k, f_MO_unitOf τ k = f_MO_unitOf s k := fun k => by
    unfold f_MO_unitOf
    rw [hs]
  rw [hu, hu] at e1
  have hl := sum_lo e1
  obtain ⟨a1, a2⟩ := uo_rng hP v01
  obtain ⟨b1, b2⟩ := uo_rng hP v11
  have ht : -16445 ≤ t1.toInt ∧ t1.toInt ≤ 16321 := by
    rcases hl with ⟨h, -⟩ | ⟨h, -⟩ <;> rw [h] <;> constructor <;> assumption
  have hv : (f_MO_unitOf s i = f_MO_unitOf s 0) ∨ (f_MO_unitOf s i = f_MO_unitOf s 1) := by
    rcases jat2 hi with e | e
    · left
      unfold f_MO_unitOf
      rw [e]
      rfl
    · right
      unfold f_MO_unitOf
      rw [e]
      rfl
  have hge : t1.toInt ≤ (f_MO_unitOf s i).toInt := by
    rcases hv with e | e <;> rw [e] <;> rcases hl with ⟨h, h2⟩ | ⟨h, h2⟩ <;> first | exact h2 | (rw [h]; exact Int.le_refl _)
  obtain ⟨c1, c2⟩ := uo_rng hP hi
  rw [i32_sub (by omega) (by omega)]
  omega
theorem lpn_ind {T : Type} {b : T → Bool × T} (P : T → Prop) (hs : ∀ t, P t → P (b t).2) : ∀ n t, P t → P (lpn b n t) := by
  intro n
  induction n with
  | zero => intro t h; exact h
  | succ n ih =>
    intro t h
    have h1 := hs t h
    unfold lpn
    split
    · rename_i e
      rw [e] at h1
      exact ih _ h1
    · rename_i e
      rw [e] at h1
      exact h1
theorem empty_107 (τ : St) (a b : Int32) (j : Nat) : gI (f_MO_empty τ a b) 107 j = gI τ 107 j := by
  unfold f_MO_empty
  simp only []
  refine lpn_ind (fun t : Int32 × St => gI t.2 107 j = gI τ 107 j) (fun t h => ?_) _ _ rfl
  unfold b_MO_empty_17
  split <;> exact h
theorem join_107 (τ : St) (f : Int64) (p : Int32) (w : Bool) (j : Nat) : gI (f_MO_join τ f p w) 107 j = gI τ 107 j := by
  unfold f_MO_join
  simp only []
  refine lpn_ind (fun t : Int32 × Bool × St => gI t.2.2 107 j = gI τ 107 j) (fun t h => ?_) _ _ rfl
  unfold b_MO_join_6
  split <;> exact h
theorem by_in {a k : Int32} (h : vp_in a 7) (h0 : 0 ≤ k.toInt) (h1 : ¬ (f_M_bytesOf a) ≤ k) : vp_in k 10 := by
  have h2 := Int32.lt_iff_toInt_lt.mp (Int32.not_le.mp h1)
  have h3 : (f_M_bytesOf a).toInt ≤ 10 := by
    obtain ⟨j, hj, rfl⟩ := vp_in_of h (by decide)
    have : ∀ j : Nat, j < 7 → (f_M_bytesOf (nI j)).toInt ≤ 10 := by decide
    exact this j hj
  exact vin_of h0 (by omega)
theorem opr_in {x o r : Int32} (e : f_M_operandOf o r = x) (h9 : ¬ x = 9) (h8 : ¬ x = 8) (h7 : ¬ x = 7) : vp_in x 7 := by
  subst e
  unfold f_M_operandOf at *
  simp only [] at *
  (repeat' split) <;> first | (unfold vp_in; decide) | (simp_all; done)
def memb (τ : St) : Prop := (0 ≤ (gI τ 100 2).toInt ∧ (gI τ 100 2).toInt ≤ 255) ∧ 0 ≤ (gI τ 100 3).toInt ∧ (gI τ 100 3).toInt ≤ 255
theorem env_first {τ : St} {x : Int32} (h : memb τ) : vp_in (jrem (f_M_wordAt (sI τ 2 30 x) 2 / 2048) 8) 8 := by
  obtain ⟨⟨h1, h2⟩, h3, h4⟩ := h
  have e : (f_M_wordAt (sI τ 2 30 x) 2).toInt = (gI τ 100 2).toInt + 256 * (gI τ 100 3).toInt := by
    have e0 : f_M_wordAt (sI τ 2 30 x) 2 = gI τ 100 2 + 256 * gI τ 100 3 := rfl
    have e1 : (256 : Int32).toInt = 256 := by decide
    have e2 : (256 * gI τ 100 3).toInt = 256 * (gI τ 100 3).toInt := by rw [i32_mul (by rw [e1]; omega) (by rw [e1]; omega), e1]
    rw [e0, i32_add (by omega) (by omega), e2]
  obtain ⟨j, hj, e3⟩ : ∃ j : Nat, j < 2 ^ 31 ∧ f_M_wordAt (sI τ 2 30 x) 2 = nI j := nI_of (fun q => by have := Int32.lt_iff_toInt_lt.mp q; rw [ti0] at this; omega)
  have e4 : nI j / 2048 = nI (j / 2048) := pk_div (d := 2048) hj (by decide) (by decide)
  have e5 : jrem (nI (j / 2048)) 8 = nI (j / 2048 % 8) := pk_rem (d := 8) (by omega) (by decide) (by decide)
  rw [e3, e4, e5]
  exact vp_in_nI (Nat.mod_lt _ (by decide)) (by decide)
