/-! products, quotients, roots: their exact sizes; sums by their signs -/
theorem j_small {S j : Nat} {h l : Int64} (hS : 2 ^ 65 ≤ S) (h1 : uN h * 2 ^ 64 + uN l = S * 2 ^ j) : j ≤ 62 := by
  refine Classical.byContradiction (fun w => ?_)
  have w1 : 2 ^ 63 ≤ 2 ^ j := Nat.pow_le_pow_right (by decide) (by omega)
  have w2 := Nat.mul_le_mul hS w1
  rw [← h1] at w2
  have b1 := uN_lt2 h
  have b2 := uN_lt2 l
  have e : (2 : Nat) ^ 65 * 2 ^ 63 = 340282366920938463463374607431768211456 := by decide
  rw [e] at w2
  omega
theorem frame_1 {σ τ : St} {o : Nat} {h l : Int64} {m : Bool} {u : Int32} (e : τ = szm σ o h l m u) : frS σ τ ∧ gJ τ 8 o = h ∧ gJ τ 9 o = l ∧ gZ τ 10 o = m ∧ gI τ 11 o = u := by
  subst e
  exact ⟨frS_szm _ _ _ _ _ _, szm_8 _ _ _ _ _ _, szm_9 _ _ _ _ _ _, szm_10 _ _ _ _ _ _, szm_11 _ _ _ _ _ _⟩
theorem pw3 {F a b c : Nat} (h : a + b = c) : F * 2 ^ a * 2 ^ b = F * 2 ^ c := by rw [Nat.mul_assoc, ← Nat.pow_add, h]
theorem mul_exact {σ : St} {o p Fa Fb : Nat} {ea eb : Int} (ha : Loaded σ o Fa ea) (hb : Loaded σ p Fb eb) (hea : -16445 ≤ ea ∧ ea ≤ 16321) (heb : -16445 ≤ eb ∧ eb ≤ 16321) :
    frS σ (f_Size_multiply σ o p) ∧ SizeIs (f_Size_multiply σ o p) o (Fa * Fb) false (ea + eb) := by
  have ra := unit_rng ha hea
  have rb := unit_rng hb heb
  obtain ⟨h, l, u, c1, c2⟩ := multiply_spec σ o p (by omega) (by omega)
  obtain ⟨f1, g8, g9, g10, g11⟩ := frame_1 c1
  refine ⟨f1, ?_⟩
  rcases c2 with ⟨q0, q1, q2⟩ | ⟨q1, j, q2, q3, q4⟩
  · refine Or.inl ⟨?_, by rw [g8, q1], by rw [g9, q2]⟩
    refine Classical.byContradiction (fun w => ?_)
    have w1 : Fa ≠ 0 := fun z => w (by rw [z, Nat.zero_mul])
    have w2 : Fb ≠ 0 := fun z => w (by rw [z, Nat.mul_zero])
    have v1 := (Loaded_F ha).mp w1
    have v2 := (Loaded_F hb).mp w2
    rcases Nat.mul_eq_zero.mp q0 with z | z <;> omega
  · have hn : uN (gJ σ 8 o) * uN (gJ σ 8 p) ≠ 0 := fun z => by
      rw [z, Nat.zero_mul] at q3
      omega
    rcases ha.2.2 with ⟨a1, a2, a3⟩ | ⟨a1, ja, a2, a3, a4⟩
    · exact absurd (by rw [uN_eq0.mp a2, Nat.zero_mul]) hn
    · rcases hb.2.2 with ⟨b1, b2, b3⟩ | ⟨b1, jb, b2, b3, b4⟩
      · exact absurd (by rw [uN_eq0.mp b2, Nat.mul_zero]) hn
      · refine Or.inr ⟨fun z => hn ?_, by rw [g8]; exact q1, by rw [g11]; omega, ?_⟩
        · rw [a3, b3]
          rcases Nat.mul_eq_zero.mp z with z | z <;> rw [z] <;> simp
        · rw [g8, g9, g10, g11, ha.2.1]
          refine Rep_exact (j := ja + jb + j) false ?_ (by omega) (Lg127 q1)
          rw [q3, a3, b3, Nat.pow_add, Nat.pow_add]
          generalize (2 : Nat) ^ ja = A
          generalize (2 : Nat) ^ jb = B
          generalize (2 : Nat) ^ j = C
          grind
theorem div_exact {σ : St} {o p Fa Fb : Nat} {ea eb : Int} (ha : Loaded σ o Fa ea) (hb : Loaded σ p Fb eb) (hea : -16445 ≤ ea ∧ ea ≤ 16321) (heb : -16445 ≤ eb ∧ eb ≤ 16321) (hFb : Fb ≠ 0) (hFb2 : Fb < 2 ^ 64) :
    frS σ (f_Size_divide σ o p) ∧ SizeIs (f_Size_divide σ o p) o (Fa * 2 ^ 136 / Fb) (decide (Fa * 2 ^ 136 % Fb ≠ 0)) (ea - eb - 136) := by
  have ra := unit_rng ha hea
  have rb := unit_rng hb heb
  have vb := (Loaded_F hb).mp hFb
  obtain ⟨r, h, l, u, c1, c2⟩ := divide_spec σ o p vb (by omega) (by omega) _ rfl _ rfl
  obtain ⟨f1, g8, g9, g10, g11⟩ := frame_1 c1
  refine ⟨frS_trans (frS_14 σ o r) f1, ?_⟩
  have bb := uN_lt2 (gJ σ 8 p)
  rcases ha.2.2 with ⟨a1, a2, a3⟩ | ⟨a1, ja, a2, a3, a4⟩
  · rw [uN_eq0.mp a2, Nat.zero_mul, Nat.zero_div] at c2
    rcases c2 with ⟨q0, q1, q2⟩ | ⟨q1, j, q2, q3, q4⟩
    · refine Or.inl ⟨by rw [a1, Nat.zero_mul, Nat.zero_div], by rw [g8, q1], by rw [g9, q2]⟩
    · rw [Nat.zero_mul] at q3
      omega
  · rcases hb.2.2 with ⟨b1, b2, b3⟩ | ⟨b1, jb, b2, b3, b4⟩
    · exact absurd b1 hFb
    · have hFa : Fa ≠ 0 := (Loaded_F ha).mpr a1
      have big : 2 ^ 65 ≤ uN (gJ σ 8 o) * 2 ^ 66 / uN (gJ σ 8 p) := by
        rw [Nat.le_div_iff_mul_le (by omega)]
        omega
      rcases c2 with ⟨q0, q1, q2⟩ | ⟨q1, j, q2, q3, q4⟩
      · rw [q0] at big
        omega
      · -- both by Fb
        have e1 : uN (gJ σ 8 o) * 2 ^ 66 = Fa * 2 ^ (66 + ja - jb) * 2 ^ jb := by
          rw [a3]
          exact (pw3 rfl).trans (pw3 (show 66 + ja - jb + jb = ja + 66 by omega)).symm
        have e2 : uN (gJ σ 8 o) * 2 ^ 66 / uN (gJ σ 8 p) = Fa * 2 ^ (66 + ja - jb) / Fb := by
          rw [e1, b3, Nat.mul_div_mul_right _ _ (pow_pos2 jb)]
        have e3 : uN (gJ σ 8 o) * 2 ^ 66 % uN (gJ σ 8 p) = Fa * 2 ^ (66 + ja - jb) % Fb * 2 ^ jb := by
          rw [e1, b3, Nat.mul_mod_mul_right]
        obtain ⟨k1, k2⟩ := @quo_cut Fa Fb (66 + ja - jb) (70 + jb - ja) (Nat.pos_of_ne_zero hFb)
        have e4 : 66 + ja - jb + (70 + jb - ja) = 136 := by omega
        rw [e4] at k1 k2
        refine Or.inr ⟨?_, by rw [g8]; exact q1, by rw [g11]; omega, ?_⟩
        · have : 1 ≤ Fa * 2 ^ 136 / Fb := by
            rw [Nat.le_div_iff_mul_le (Nat.pos_of_ne_zero hFb)]
            have : 1 * 2 ^ 136 ≤ Fa * 2 ^ 136 := Nat.mul_le_mul_right _ (Nat.pos_of_ne_zero hFa)
            omega
          omega
        · rw [g8, g9, g10, g11]
          refine Rep_cut (k := 70 + jb - ja) (j := j) (g := 0) (b := ea - eb - 136) (e2.trans k1) ?_ (by simp) (by omega) q3 (by omega) (Lg127 q1) (Or.inr (Or.inl (j_small big q3)))
          have e5 : (uN (gJ σ 8 o) * 2 ^ 66 % uN (gJ σ 8 p) ≠ 0) ↔ (Fa * 2 ^ (66 + ja - jb) % Fb ≠ 0) := by
            rw [e3]
            have := pow_pos2 jb
            constructor
            · intro w z
              rw [z, Nat.zero_mul] at w
              exact w rfl
            · intro w z
              rcases Nat.mul_eq_zero.mp z with z | z
              · exact w z
              · omega
          by_cases w1 : Fa * 2 ^ 136 % Fb ≠ 0
          · rw [decide_eq_true w1, decide_eq_true (e5.mpr (k2.mpr (Or.inl w1)))]
            rfl
          · by_cases w2 : Fa * 2 ^ 136 / Fb % 2 ^ (70 + jb - ja) ≠ 0
            · rw [decide_eq_true w2, decide_eq_true (e5.mpr (k2.mpr (Or.inr w2)))]
              simp
            · have w3 : ¬ (uN (gJ σ 8 o) * 2 ^ 66 % uN (gJ σ 8 p) ≠ 0) := fun z => by
                rcases k2.mp (e5.mp z) with z | z
                · exact w1 z
                · exact w2 z
              rw [decide_eq_false w1, decide_eq_false w2, decide_eq_false w3]
              rfl
theorem root_exact {σ : St} {o Fa : Nat} {ea : Int} (ha : Loaded σ o Fa ea) (hea : -16445 ≤ ea ∧ ea ≤ 16321) (hFa : Fa ≠ 0) (od R1 r1 : Nat) (hod : (od : Int) = ea % 2) (h1 : R1 * R1 + r1 = Fa * 2 ^ (140 + od)) (h2 : r1 ≤ 2 * R1) :
    frS σ (f_Size_root σ o) ∧ SizeIs (f_Size_root σ o) o R1 (decide (r1 ≠ 0)) ((ea - od) / 2 - 70) := by
  have ra := unit_rng ha hea
  have va := (Loaded_F ha).mp hFa
  obtain ⟨odd, hodd⟩ : ∃ odd : Nat, (odd : Int) = (gI σ 11 o).toInt % 2 := ⟨((gI σ 11 o).toInt % 2).toNat, by omega⟩
  obtain ⟨h, l, u, R, rest, c1, c2, c3, c4, q1, j, q2, q3, q4⟩ := root_spec σ o va (by omega) odd hodd
  obtain ⟨f1, g8, g9, g10, g11⟩ := frame_1 c1
  refine ⟨f1, ?_⟩
  rcases ha.2.2 with ⟨a1, a2, a3⟩ | ⟨a1, ja, a2, a3, a4⟩
  · exact absurd a1 hFa
  · obtain ⟨c, hc⟩ : ∃ c : Nat, 2 * c + ja = 72 + od + odd := ⟨(72 + od + odd - ja) / 2, by omega⟩
    have e1 : uN (gJ σ 8 o) * 2 ^ (68 - odd) * 2 ^ (2 * c) = Fa * 2 ^ (140 + od) := by
      rw [a3]
      exact (congrArg (fun z => z * 2 ^ (2 * c)) (pw3 rfl)).trans (pw3 (show ja + (68 - odd) + 2 * c = 140 + od by omega))
    rw [← e1] at h1
    obtain ⟨k1, k2⟩ := root_cut c2 c3 h1 h2
    refine Or.inr ⟨?_, by rw [g8]; exact q1, by rw [g11]; omega, ?_⟩
    · intro z
      rw [z, Nat.zero_div] at k1
      omega
    · rw [g8, g9, g10, g11]
      refine Rep_cut (k := c) (j := j) (g := 0) (b := (ea - od) / 2 - 70) k1 ?_ (by simp) (by omega) q3 (by omega) (Lg127 q1) (Or.inr (Or.inl (j_small c4 q3)))
      by_cases w1 : r1 ≠ 0
      · rw [decide_eq_true w1, decide_eq_true (k2.mpr (Or.inl w1))]
        rfl
      · by_cases w2 : R1 % 2 ^ c ≠ 0
        · rw [decide_eq_true w2, decide_eq_true (k2.mpr (Or.inr w2))]
          simp
        · have w3 : ¬ (rest ≠ 0) := fun z => by
            rcases k2.mp z with z | z
            · exact w1 z
            · exact w2 z
          rw [decide_eq_false w1, decide_eq_false w2, decide_eq_false w3]
          rfl
/-! which one is the greater -/
theorem val_eq {σ : St} {o F : Nat} {e : Int} (hL : Loaded σ o F e) (b : Int) (d g x : Nat) (hu : (gI σ 11 o).toInt = b + d) (he : e = b + g + x) : uN (gJ σ 8 o) * 2 ^ 64 * 2 ^ d = F * 2 ^ x * 2 ^ g := by
  rcases hL.2.2 with ⟨a1, a2, a3⟩ | ⟨a1, j, a2, a3, a4⟩
  · rw [uN_eq0.mp a2, a1]
    simp
  · rw [a3, Nat.mul_assoc, Nat.mul_assoc, Nat.mul_assoc, ← Nat.pow_add, ← Nat.pow_add, ← Nat.pow_add]
    congr 2
    omega
theorem less_val {σ : St} {o p Fa Fb : Nat} {ea eb : Int} (ha : Loaded σ o Fa ea) (hb : Loaded σ p Fb eb) (hea : -16445 ≤ ea ∧ ea ≤ 16321) (heb : -16445 ≤ eb ∧ eb ≤ 16321) (lo : Int) (x y : Nat) (hx : ea = lo + x) (hy : eb = lo + y) (hlo : lo = ea ∨ lo = eb) (h : (gI σ 11 p).toInt < (gI σ 11 o).toInt ∨ ((gI σ 11 p).toInt = (gI σ 11 o).toInt ∧ uN (gJ σ 8 p) < uN (gJ σ 8 o))) : Fb * 2 ^ y < Fa * 2 ^ x := by
  have ra := unit_rng ha hea
  have rb := unit_rng hb heb
  obtain ⟨d, hd⟩ : ∃ d : Nat, (gI σ 11 o).toInt = (gI σ 11 p).toInt + d := ⟨((gI σ 11 o).toInt - (gI σ 11 p).toInt).toNat, by rcases h with h | h <;> omega⟩
  have hg0 : (gI σ 11 p).toInt ≤ lo := by
    rcases hb.2.2 with ⟨b1, b2, b3⟩ | ⟨b1, jb, b2, b3, b4⟩
    · rcases hlo with w | w <;> omega
    · rcases ha.2.2 with ⟨a1, a2, a3⟩ | ⟨a1, ja, a2, a3, a4⟩
      · rcases hlo with w | w <;> omega
      · rcases hlo with w | w <;> omega
  obtain ⟨g, hg⟩ : ∃ g : Nat, lo = (gI σ 11 p).toInt + g := ⟨(lo - (gI σ 11 p).toInt).toNat, by omega⟩
  have va := val_eq ha (gI σ 11 p).toInt d g x hd (by omega)
  have vb := val_eq hb (gI σ 11 p).toInt 0 g y (by omega) (by omega)
  have bb := uN_lt2 (gJ σ 8 p)
  have key : uN (gJ σ 8 p) * 2 ^ 64 * 2 ^ 0 < uN (gJ σ 8 o) * 2 ^ 64 * 2 ^ d := by
    rcases h with h | ⟨h, h2⟩
    · have a1 : 2 ^ 63 ≤ uN (gJ σ 8 o) := by
        rcases ha.2.2 with ⟨a1, a2, a3⟩ | ⟨a1, ja, a2, a3, a4⟩
        · omega
        · exact a1
      have p1 : 2 ^ 1 ≤ 2 ^ d := Nat.pow_le_pow_right (by decide) (by omega)
      have p2 : uN (gJ σ 8 o) * 2 ^ 64 * 2 ≤ uN (gJ σ 8 o) * 2 ^ 64 * 2 ^ d := Nat.mul_le_mul_left _ (by omega)
      omega
    · have : d = 0 := by omega
      subst this
      omega
  rw [va, vb] at key
  exact Nat.lt_of_mul_lt_mul_right key
theorem same_val {σ : St} {o p Fa Fb : Nat} {ea eb : Int} (ha : Loaded σ o Fa ea) (hb : Loaded σ p Fb eb) (hea : -16445 ≤ ea ∧ ea ≤ 16321) (heb : -16445 ≤ eb ∧ eb ≤ 16321) (lo : Int) (x y : Nat) (hx : ea = lo + x) (hy : eb = lo + y) (hlo : lo = ea ∨ lo = eb) (h1 : (gI σ 11 p).toInt = (gI σ 11 o).toInt) (h2 : uN (gJ σ 8 p) = uN (gJ σ 8 o)) : Fa * 2 ^ x = Fb * 2 ^ y := by
  have ra := unit_rng ha hea
  have rb := unit_rng hb heb
  have hg0 : (gI σ 11 p).toInt ≤ lo := by
    rcases hb.2.2 with ⟨b1, b2, b3⟩ | ⟨b1, jb, b2, b3, b4⟩
    · rcases hlo with w | w <;> omega
    · rcases ha.2.2 with ⟨a1, a2, a3⟩ | ⟨a1, ja, a2, a3, a4⟩
      · rcases hlo with w | w <;> omega
      · rcases hlo with w | w <;> omega
  obtain ⟨g, hg⟩ : ∃ g : Nat, lo = (gI σ 11 p).toInt + g := ⟨(lo - (gI σ 11 p).toInt).toNat, by omega⟩
  have va := val_eq ha (gI σ 11 p).toInt 0 g x (by omega) (by omega)
  have vb := val_eq hb (gI σ 11 p).toInt 0 g y (by omega) (by omega)
  rw [h2, va] at vb
  exact Nat.eq_of_mul_eq_mul_right (pow_pos2 g) vb
