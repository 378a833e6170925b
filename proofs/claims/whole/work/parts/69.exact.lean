/-! a size that stands for (N, s, e): what matters of it for every rounding -/
def Rep (Nc : Nat) (m : Bool) (u : Int) (N : Nat) (s : Bool) (e : Int) : Prop := ∃ t : Nat, Lg N t ∧ u + 127 = e + t ∧ ∀ q : Int, u + 64 ≤ q → RQ Nc m u q = RQ N s e q
theorem Lg_of_mul {N a j : Nat} (h : Lg (N * 2 ^ j) (a + j)) : Lg N a := by
  have h1 := h.1
  have h2 := h.2
  constructor
  · rw [Nat.pow_add] at h1
    exact Nat.le_of_mul_le_mul_right h1 (pow_pos2 j)
  · have e : a + j + 1 = a + 1 + j := by omega
    rw [e, Nat.pow_add] at h2
    exact Nat.lt_of_mul_lt_mul_right h2
theorem Lg_of_div {N a j : Nat} (h : Lg (N / 2 ^ j) a) : Lg N (a + j) := by
  have h1 := h.1
  have h2 := h.2
  constructor
  · rw [Nat.pow_add]
    exact (Nat.le_div_iff_mul_le (pow_pos2 j)).mp h1
  · have e : a + j + 1 = a + 1 + j := by omega
    rw [e, Nat.pow_add]
    exact (Nat.div_lt_iff_lt_mul (pow_pos2 j)).mp h2
theorem Lg_ge {N a j : Nat} (h : Lg (N * 2 ^ j) a) : j ≤ a := by
  have h2 := h.2
  have h1 := h.1
  refine Classical.byContradiction (fun q => ?_)
  have hN : N ≠ 0 := fun z => by
    rw [z, Nat.zero_mul] at h1
    have := pow_pos2 a
    omega
  have : 2 ^ (a + 1) ≤ 2 ^ j := Nat.pow_le_pow_right (by decide) (by omega)
  have : 1 * 2 ^ j ≤ N * 2 ^ j := Nat.mul_le_mul_right _ (by omega)
  omega
/-- exact: only the unit is another one -/
theorem Rep_exact {Nc N j : Nat} {u e : Int} (m : Bool) (h : Nc = N * 2 ^ j) (hu : u = e - j) (hn : Lg Nc 127) : Rep Nc m u N m e := by
  have hj : j ≤ 127 := by
    rw [h] at hn
    exact Lg_ge hn
  obtain ⟨t, rfl⟩ : ∃ t, 127 - j = t := ⟨_, rfl⟩
  refine ⟨127 - j, ?_, by omega, fun q _ => ?_⟩
  · apply Lg_of_mul (j := j)
    rw [← h]
    have : 127 - j + j = 127 := by omega
    rw [this]
    exact hn
  · rw [h, hu, RQ_scale]
/-- cut at k places, then brought up by j -/
theorem Rep_cut {Nc V N S k j g : Nat} {s M : Bool} {u e b : Int} (hS : S = V / 2 ^ k) (hM : M = (s || decide (V % 2 ^ k ≠ 0))) (hV : V = N * 2 ^ g) (hb : b = e - g) (hc : Nc = S * 2 ^ j) (hu : u = b + k - j) (hn : Lg Nc 127) (hbig : (M = false ∧ s = false) ∨ j ≤ 62 ∨ (j ≤ 63 ∧ 0 < k)) : Rep Nc M u N s e := by
  have hj : j ≤ 127 := by
    rw [hc] at hn
    exact Lg_ge hn
  have l1 : Lg S (127 - j) := by
    apply Lg_of_mul (j := j)
    rw [← hc]
    have : 127 - j + j = 127 := by omega
    rw [this]
    exact hn
  rw [hS] at l1
  have l2 := Lg_of_div l1
  rw [hV] at l2
  have hg : g ≤ 127 - j + k := Lg_ge l2
  refine ⟨127 - j + k - g, ?_, by omega, fun q hq => ?_⟩
  · apply Lg_of_mul (j := g)
    have : 127 - j + k - g + g = 127 - j + k := by omega
    rw [this]
    exact l2
  · have r1 : RQ Nc M u q = RQ S M (b + k) q := by
      rw [hc, hu, RQ_scale]
    have r2 : RQ V s b q = RQ N s e q := by
      rw [hV, hb, RQ_scale]
    rw [r1, ← r2]
    by_cases h0 : b + k + 1 ≤ q
    · rw [hS, hM, RQ_trunc V s b q k h0]
    · rcases hbig with ⟨m1, s1⟩ | h1 | ⟨h1, h2⟩
      · rw [m1, s1] at hM
        have z : V % 2 ^ k = 0 := by
          simpa using hM
        have v1 : V = S * 2 ^ k := by
          rw [hS]
          have := Nat.div_add_mod V (2 ^ k)
          rw [z, Nat.add_zero, Nat.mul_comm] at this
          exact this.symm
        have := RQ_scale S M (b + k) q k
        rw [← this, ← v1, m1, s1]
        congr 1
        omega
      · omega
      · omega
/-! the exact values of a sum and of a difference -/
theorem pow_split {a b c : Nat} (h : c = a + b) : (2 : Nat) ^ c = 2 ^ a * 2 ^ b := by rw [h, Nat.pow_add]
theorem sum_V {F0 F1 j0 j1 d x y g : Nat} (hx : x + g = 64 + j0 + d) (hy : F1 = 0 ∨ y + g = 64 + j1) : F0 * 2 ^ j0 * 2 ^ 64 * 2 ^ d + F1 * 2 ^ j1 * 2 ^ 64 = (F0 * 2 ^ x + F1 * 2 ^ y) * 2 ^ g := by
  have e0 : F0 * 2 ^ x * 2 ^ g = F0 * 2 ^ j0 * 2 ^ 64 * 2 ^ d := by
    rw [Nat.mul_assoc, Nat.mul_assoc, Nat.mul_assoc, ← Nat.pow_add, ← Nat.pow_add, ← Nat.pow_add]
    congr 2
    omega
  have e1 : F1 * 2 ^ y * 2 ^ g = F1 * 2 ^ j1 * 2 ^ 64 := by
    rcases hy with rfl | hy
    · simp
    · rw [Nat.mul_assoc, Nat.mul_assoc, ← Nat.pow_add, ← Nat.pow_add]
      congr 2
      omega
  rw [Nat.add_mul, e0, e1]
theorem dif_V {F0 F1 j0 j1 d x y g : Nat} (hx : x + g = 64 + j0 + d) (hy : F1 = 0 ∨ y + g = 64 + j1) : F0 * 2 ^ j0 * 2 ^ 64 * 2 ^ d - F1 * 2 ^ j1 * 2 ^ 64 = (F0 * 2 ^ x - F1 * 2 ^ y) * 2 ^ g := by
  have e0 : F0 * 2 ^ x * 2 ^ g = F0 * 2 ^ j0 * 2 ^ 64 * 2 ^ d := by
    rw [Nat.mul_assoc, Nat.mul_assoc, Nat.mul_assoc, ← Nat.pow_add, ← Nat.pow_add, ← Nat.pow_add]
    congr 2
    omega
  have e1 : F1 * 2 ^ y * 2 ^ g = F1 * 2 ^ j1 * 2 ^ 64 := by
    rcases hy with rfl | hy
    · simp
    · rw [Nat.mul_assoc, Nat.mul_assoc, ← Nat.pow_add, ← Nat.pow_add]
      congr 2
      omega
  rw [Nat.sub_mul, e0, e1]
/-- halves of the sum, cut at d + 1 places -/
theorem sum_cut {X Y d : Nat} : (X * 2 ^ 64 * 2 ^ d + Y * 2 ^ 64) / 2 ^ (d + 1) = X * 2 ^ 63 + Y * 2 ^ 64 / 2 ^ (d + 1) ∧ (X * 2 ^ 64 * 2 ^ d + Y * 2 ^ 64) % 2 ^ (d + 1) = Y * 2 ^ 64 % 2 ^ (d + 1) := by
  have e : X * 2 ^ 64 * 2 ^ d = 2 ^ (d + 1) * (X * 2 ^ 63) := by
    have e1 : (2 : Nat) ^ (d + 1) = 2 ^ d * 2 := Nat.pow_succ _ _
    have e2 : (2 : Nat) ^ 64 = 2 ^ 63 * 2 := by decide
    rw [e1, e2]
    generalize (2 : Nat) ^ 63 = A
    generalize (2 : Nat) ^ d = B
    grind
  rw [e]
  exact ⟨Nat.mul_add_div (pow_pos2 _) _ _, Nat.mul_add_mod _ _ _⟩
theorem dif_gen {P A B : Nat} (hP : 0 < P) (h : B ≤ P * A) : (P * A - B) / P + (decide (B % P ≠ 0)).toNat + B / P = A ∧ ((P * A - B) % P ≠ 0 ↔ B % P ≠ 0) := by
  have dm := Nat.div_add_mod B P
  have ml := Nat.mod_lt B hP
  generalize hq : B / P = q at *
  generalize hr : B % P = r at *
  have hqA : q ≤ A := by
    rw [← hq]
    exact Nat.div_le_of_le_mul h
  by_cases c : r = 0
  · have s1 : P * A - B = P * (A - q) := by
      rw [Nat.mul_sub, ← dm, c]
      omega
    rw [s1, Nat.mul_div_cancel_left _ hP, Nat.mul_mod_right]
    simp [c]
    omega
  · have hqA2 : q + 1 ≤ A := by
      refine Classical.byContradiction (fun z => ?_)
      have : q = A := by omega
      subst this
      omega
    have s1 : P * A - B = P * (A - q - 1) + (P - r) := by
      have : P * A = P * (A - q - 1) + P * (q + 1) := by
        rw [← Nat.mul_add]
        congr 1
        omega
      rw [this, Nat.mul_add, Nat.mul_one, ← dm]
      omega
    have s2 : P - r < P := by omega
    rw [s1, Nat.mul_add_div hP, Nat.div_eq_of_lt s2, Nat.mul_add_mod, Nat.mod_eq_of_lt s2]
    simp [c]
    omega
theorem dif_cut {X Y d : Nat} (h : Y * 2 ^ 64 ≤ X * 2 ^ 64 * 2 ^ d) : (X * 2 ^ 64 * 2 ^ d - Y * 2 ^ 64) / 2 ^ (d + 1) + (decide (Y * 2 ^ 64 % 2 ^ (d + 1) ≠ 0)).toNat + Y * 2 ^ 64 / 2 ^ (d + 1) = X * 2 ^ 63 ∧ ((X * 2 ^ 64 * 2 ^ d - Y * 2 ^ 64) % 2 ^ (d + 1) ≠ 0 ↔ Y * 2 ^ 64 % 2 ^ (d + 1) ≠ 0) := by
  have e : X * 2 ^ 64 * 2 ^ d = 2 ^ (d + 1) * (X * 2 ^ 63) := by
    have e1 : (2 : Nat) ^ (d + 1) = 2 ^ d * 2 := Nat.pow_succ _ _
    have e2 : (2 : Nat) ^ 64 = 2 ^ 63 * 2 := by decide
    rw [e1, e2]
    generalize (2 : Nat) ^ 63 = A
    generalize (2 : Nat) ^ d = B
    grind
  rw [e] at h ⊢
  exact dif_gen (pow_pos2 _) h
theorem mod_small {Y d : Nat} (h : Y * 2 ^ 64 % 2 ^ (d + 1) ≠ 0) : 64 ≤ d := by
  refine Classical.byContradiction (fun q => h ?_)
  exact mul_pow_mod0 Y (d + 1) 64 (by omega)
/-! quotients -/
theorem quo_cut {A B a c : Nat} (hB : 0 < B) : A * 2 ^ a / B = A * 2 ^ (a + c) / B / 2 ^ c ∧ (A * 2 ^ a % B ≠ 0 ↔ (A * 2 ^ (a + c) % B ≠ 0 ∨ A * 2 ^ (a + c) / B % 2 ^ c ≠ 0)) := by
  have hC := pow_pos2 c
  have e : A * 2 ^ (a + c) = A * 2 ^ a * 2 ^ c := by rw [Nat.pow_add, Nat.mul_assoc]
  rw [e]
  generalize A * 2 ^ a = X
  generalize (2 : Nat) ^ c = C at *
  have d1 : X * C / B / C = X / B := by
    rw [Nat.div_div_eq_div_mul, Nat.mul_div_mul_right _ _ hC]
  refine ⟨d1.symm, ?_⟩
  constructor
  · intro h
    refine Classical.byContradiction (fun q => h ?_)
    have q1 : X * C % B = 0 := Classical.byContradiction (fun z => q (Or.inl z))
    have q2 : X * C / B % C = 0 := Classical.byContradiction (fun z => q (Or.inr z))
    have m1 := Nat.div_add_mod (X * C) B
    have m2 := Nat.div_add_mod (X * C / B) C
    rw [q1, Nat.add_zero] at m1
    rw [q2, Nat.add_zero, d1] at m2
    rw [← m2] at m1
    have m3 : B * (X / B) * C = X * C := by
      rw [← m1]
      grind
    have m4 : B * (X / B) = X := Nat.eq_of_mul_eq_mul_right hC m3
    rw [← m4]
    exact Nat.mul_mod_right _ _
  · intro h q
    have m4 := Nat.div_add_mod X B
    rw [q, Nat.add_zero] at m4
    have m5 : X * C = B * (X / B * C) := by
      rw [← Nat.mul_assoc, m4]
    rcases h with h | h
    · apply h
      rw [m5]
      exact Nat.mul_mod_right _ _
    · apply h
      rw [m5, Nat.mul_div_cancel_left _ hB]
      exact Nat.mul_mod_left _ _
/-! roots -/
theorem sqrt_uniq {R S r s N : Nat} (h1 : R * R + r = N) (h2 : r ≤ 2 * R) (h3 : S * S + s = N) (h4 : s ≤ 2 * S) : R = S := by
  rcases Nat.lt_trichotomy R S with q | q | q
  · have a1 : (R + 1) * (R + 1) ≤ S * S := Nat.mul_le_mul q q
    have a2 : (R + 1) * (R + 1) = R * R + 2 * R + 1 := by grind
    generalize R * R = X at *
    generalize S * S = Y at *
    omega
  · exact q
  · have a1 : (S + 1) * (S + 1) ≤ R * R := Nat.mul_le_mul q q
    have a2 : (S + 1) * (S + 1) = S * S + 2 * S + 1 := by grind
    generalize R * R = X at *
    generalize S * S = Y at *
    omega
theorem root_cut {N R r R1 r1 c : Nat} (h1 : R * R + r = N) (h2 : r ≤ 2 * R) (h3 : R1 * R1 + r1 = N * 2 ^ (2 * c)) (h4 : r1 ≤ 2 * R1) : R = R1 / 2 ^ c ∧ (r ≠ 0 ↔ (r1 ≠ 0 ∨ R1 % 2 ^ c ≠ 0)) := by
  have hC := pow_pos2 c
  have eC : (2 : Nat) ^ (2 * c) = 2 ^ c * 2 ^ c := by rw [← Nat.pow_add]; congr 1; omega
  rw [eC] at h3
  generalize (2 : Nat) ^ c = C at *
  -- the root of N * C * C, cut at C, is the root of N
  have dm := Nat.div_add_mod R1 C
  have ml := Nat.mod_lt R1 hC
  generalize hq : R1 / C = q at *
  generalize ht : R1 % C = t at *
  -- q * q ≤ N < (q + 1) * (q + 1)
  have lo : q * q ≤ N := by
    have a : C * q * (C * q) ≤ N * (C * C) := by
      rw [← h3, ← dm]
      have : C * q * (C * q) ≤ (C * q + t) * (C * q + t) := Nat.mul_le_mul (by omega) (by omega)
      omega
    have b : C * q * (C * q) = q * q * (C * C) := by grind
    rw [b] at a
    exact Nat.le_of_mul_le_mul_right a (Nat.mul_pos hC hC)
  have hi : N < (q + 1) * (q + 1) := by
    have a : N * (C * C) < (C * (q + 1)) * (C * (q + 1)) := by
      have a1 : R1 + 1 ≤ C * (q + 1) := by
        rw [Nat.mul_add, Nat.mul_one, ← dm]
        omega
      have a2 : (R1 + 1) * (R1 + 1) ≤ (C * (q + 1)) * (C * (q + 1)) := Nat.mul_le_mul a1 a1
      have a3 : (R1 + 1) * (R1 + 1) = R1 * R1 + 2 * R1 + 1 := by grind
      rw [← h3]
      generalize R1 * R1 = Z at *
      omega
    have b : (C * (q + 1)) * (C * (q + 1)) = (q + 1) * (q + 1) * (C * C) := by grind
    rw [b] at a
    exact Nat.lt_of_mul_lt_mul_right a
  have hRq : R = q := by
    refine sqrt_uniq h1 h2 (s := N - q * q) (by omega) ?_
    have : (q + 1) * (q + 1) = q * q + 2 * q + 1 := by grind
    generalize q * q = Z at *
    omega
  refine ⟨hRq, ?_⟩
  subst hRq
  constructor
  · intro hr
    refine Classical.byContradiction (fun z => hr ?_)
    have z1 : r1 = 0 := Classical.byContradiction (fun w => z (Or.inl w))
    have z2 : t = 0 := Classical.byContradiction (fun w => z (Or.inr w))
    subst z1 z2
    rw [Nat.add_zero] at dm h3
    rw [← dm] at h3
    have b : C * R * (C * R) = R * R * (C * C) := by grind
    rw [b] at h3
    have := Nat.eq_of_mul_eq_mul_right (Nat.mul_pos hC hC) h3
    omega
  · intro h hr
    subst hr
    rw [Nat.add_zero] at h1
    have e1 : (C * R) * (C * R) + 0 = N * (C * C) := by
      rw [← h1]
      grind
    have e2 := sqrt_uniq h3 h4 e1 (Nat.zero_le _)
    rcases h with h | h
    · apply h
      rw [e2] at h3
      omega
    · apply h
      rw [← dm] at e2
      omega
