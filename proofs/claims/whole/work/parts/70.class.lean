/-! the class's operations: the exact size of an answer -/
def frS (σ τ : St) : Prop := (∀ k x, k ≠ 11 → gI τ k x = gI σ k x) ∧ (∀ k x, k ≠ 8 → k ≠ 9 → k ≠ 12 → k ≠ 14 → gJ τ k x = gJ σ k x) ∧ (∀ k x, k ≠ 10 → k ≠ 13 → gZ τ k x = gZ σ k x)
theorem frS_refl (σ : St) : frS σ σ := ⟨fun _ _ _ => rfl, fun _ _ _ _ _ _ => rfl, fun _ _ _ _ => rfl⟩
theorem frS_trans {σ τ ρ : St} (h : frS σ τ) (g : frS τ ρ) : frS σ ρ := ⟨fun k x a => (g.1 k x a).trans (h.1 k x a), fun k x a b c d => (g.2.1 k x a b c d).trans (h.2.1 k x a b c d), fun k x a b => (g.2.2 k x a b).trans (h.2.2 k x a b)⟩
theorem frS_szm (σ : St) (o : Nat) (h l : Int64) (m : Bool) (u : Int32) : frS σ (szm σ o h l m u) := by
  refine ⟨fun k x a => ?_, fun k x a b c d => ?_, fun k x a b => ?_⟩
  · rw [szm_I, if_neg a]
  · rw [szm_J, if_neg b, if_neg a]
  · rw [szm_Z, if_neg a]
theorem frS_14 (σ : St) (o : Nat) (r : Int64) : frS σ (sJ σ 14 o r) := by
  refine ⟨fun k x a => rfl, fun k x a b c d => ?_, fun k x a b => rfl⟩
  rw [gJ_sJ, if_neg d]
theorem frS_rd (σ : St) (o : Nat) (K : Int64) (c : Bool) : frS σ (sZ (sJ σ 12 o K) 13 o c) := by
  refine ⟨fun k x a => rfl, fun k x a b c d => ?_, fun k x a b => ?_⟩
  · rw [gJ_sZ, gJ_sJ, if_neg c]
  · rw [gZ_sZ, if_neg b, gZ_sJ]
def unitN (P : Nat) : Int := (if P = 0 then 1 else (P : Int)) - 16446
theorem unitN_rng {P : Nat} (h : P ≤ 32767) : -16445 ≤ unitN P ∧ unitN P ≤ 16321 := by
  unfold unitN
  split <;> omega
def Loaded (σ : St) (o : Nat) (F : Nat) (e : Int) : Prop := gJ σ 9 o = 0 ∧ gZ σ 10 o = false ∧ ((F = 0 ∧ gJ σ 8 o = 0 ∧ (gI σ 11 o).toInt = -17000) ∨ (2 ^ 63 ≤ uN (gJ σ 8 o) ∧ ∃ j : Nat, j < 64 ∧ uN (gJ σ 8 o) = F * 2 ^ j ∧ (gI σ 11 o).toInt = e - 64 - j))
theorem Loaded_F {σ : St} {o F : Nat} {e : Int} (h : Loaded σ o F e) : F ≠ 0 ↔ 2 ^ 63 ≤ uN (gJ σ 8 o) := by
  rcases h.2.2 with ⟨h1, h2, h3⟩ | ⟨h1, j, h2, h3, h4⟩
  · have : uN (gJ σ 8 o) = 0 := uN_eq0.mp h2
    omega
  · have : F ≠ 0 := fun q => by
      rw [q, Nat.zero_mul] at h3
      omega
    omega
theorem load_spec (σ : St) (o a : Nat) (P : Nat) (hP : P ≤ 32767) (hp : gI σ 16 a = nI P) :
    ∃ (h : Int64) (u : Int32), f_Size_load σ o a = szm σ o h 0 false u ∧ Loaded (szm σ o h 0 false u) o (uN (gJ σ 17 a)) (unitN P) := by
  obtain ⟨hr1, hr2⟩ := unitN_rng hP
  have e0 : ((if gI σ 16 a = 0 then (1 : Int32) else gI σ 16 a) - 16446).toInt = unitN P := by
    have e1 : (16446 : Int32).toInt = 16446 := by decide
    have e2 : (1 : Int32).toInt = 1 := by decide
    unfold unitN
    rw [hp]
    by_cases c : P = 0
    · subst c
      have : nI 0 = (0 : Int32) := rfl
      rw [if_pos this, if_pos rfl, i32_subT (by omega) (by omega), e1, e2]
    · have c2 : ¬ nI P = 0 := nI_ne0 (by omega) (by omega)
      have e3 : (nI P).toInt = P := nI_toInt (by omega)
      rw [if_neg c2, if_neg c, i32_subT (by omega) (by omega), e1, e3]
  obtain ⟨h, u, c1, c2⟩ := loadTimes_spec σ o (gJ σ 17 a) ((if gI σ 16 a = 0 then (1 : Int32) else gI σ 16 a) - 16446) (by rw [e0]; omega)
  refine ⟨h, u, c1, szm_9 _ _ _ _ _ _, szm_10 _ _ _ _ _ _, ?_⟩
  rw [szm_8, szm_11]
  rcases c2 with ⟨d1, d2, d3⟩ | ⟨d1, j, d2, d3, d4⟩
  · refine Or.inl ⟨uN_eq0.mp d1, d2, ?_⟩
    rw [d3]
    decide
  · refine Or.inr ⟨d1, j, d2, d3, ?_⟩
    rw [d4, e0]
theorem Loaded_other {σ : St} {o p F : Nat} {e : Int} (hop : o ≠ p) {h l : Int64} {m : Bool} {u : Int32} (hL : Loaded σ o F e) : Loaded (szm σ p h l m u) o F e := by
  have g1 : gJ (szm σ p h l m u) 8 o = gJ σ 8 o := by rw [szm_J]; simp [hop]
  have g2 : gJ (szm σ p h l m u) 9 o = gJ σ 9 o := by rw [szm_J]; simp [hop]
  have g3 : gZ (szm σ p h l m u) 10 o = gZ σ 10 o := by rw [szm_Z]; simp [hop]
  have g4 : gI (szm σ p h l m u) 11 o = gI σ 11 o := by rw [szm_I]; simp [hop]
  unfold Loaded
  rw [g1, g2, g3, g4]
  exact hL
def SizeIs (σ : St) (o : Nat) (N : Nat) (s : Bool) (e : Int) : Prop := (N = 0 ∧ gJ σ 8 o = 0 ∧ gJ σ 9 o = 0) ∨ (N ≠ 0 ∧ 2 ^ 63 ≤ uN (gJ σ 8 o) ∧ (-39000 ≤ (gI σ 11 o).toInt ∧ (gI σ 11 o).toInt ≤ 39000) ∧ Rep (uN (gJ σ 8 o) * 2 ^ 64 + uN (gJ σ 9 o)) (gZ σ 10 o) (gI σ 11 o).toInt N s e)
theorem Lg127 {h l : Int64} (h1 : 2 ^ 63 ≤ uN h) : Lg (uN h * 2 ^ 64 + uN l) 127 := N128 h1 (uN_lt2 h) (uN_lt2 l)
theorem unit_rng {σ : St} {o F : Nat} {e : Int} (hL : Loaded σ o F e) (he : -16445 ≤ e ∧ e ≤ 16321) : -17000 ≤ (gI σ 11 o).toInt ∧ (gI σ 11 o).toInt ≤ 17000 ∧ (F ≠ 0 → -16600 ≤ (gI σ 11 o).toInt) := by
  rcases hL.2.2 with ⟨h1, h2, h3⟩ | ⟨h1, j, h2, h3, h4⟩ <;> omega
/-- the greater one at o, the other one at p -/
def Above (σ : St) (o p : Nat) : Prop := (gI σ 11 p).toInt < (gI σ 11 o).toInt ∨ ((gI σ 11 p).toInt = (gI σ 11 o).toInt ∧ uN (gJ σ 8 p) ≤ uN (gJ σ 8 o))
theorem above_le {σ : St} {o p Fa Fb : Nat} {ea eb : Int} (ha : Loaded σ o Fa ea) (hb : Loaded σ p Fb eb) (hea : -16445 ≤ ea ∧ ea ≤ 16321) (heb : -16445 ≤ eb ∧ eb ≤ 16321) (h : Above σ o p) (d : Nat) (hd : (gI σ 11 o).toInt = (gI σ 11 p).toInt + d) : (Fa = 0 → Fb = 0) ∧ uN (gJ σ 8 p) * 2 ^ 64 ≤ uN (gJ σ 8 o) * 2 ^ 64 * 2 ^ d := by
  have z : Fa = 0 → Fb = 0 := fun q => by
    have h1 := (unit_rng hb heb).2.2
    rcases ha.2.2 with ⟨a1, a2, a3⟩ | ⟨a1, j, a2, a3, a4⟩
    · refine Classical.byContradiction (fun w => ?_)
      have := h1 w
      rcases h with h | h <;> omega
    · rw [q, Nat.zero_mul] at a3
      omega
  refine ⟨z, ?_⟩
  have bb := uN_lt2 (gJ σ 8 p)
  by_cases h0 : Fa = 0
  · rcases hb.2.2 with ⟨b1, b2, b3⟩ | ⟨b1, j, b2, b3, b4⟩
    · rw [uN_eq0.mp b2]
      simp
    · rw [z h0, Nat.zero_mul] at b3
      omega
  · have a1 := (Loaded_F ha).mp h0
    rcases h with h | ⟨h, h2⟩
    · have p1 : 2 ^ 1 ≤ 2 ^ d := Nat.pow_le_pow_right (by decide) (by omega)
      have p2 : uN (gJ σ 8 o) * 2 ^ 64 * 2 ≤ uN (gJ σ 8 o) * 2 ^ 64 * 2 ^ d := Nat.mul_le_mul_left _ (by omega)
      omega
    · have : d = 0 := by omega
      subst this
      omega
theorem frame_sz {σ τ : St} {o a : Nat} {h l y1 y2 : Int64} {m m1 : Bool} {u y4 : Int32} (e : τ = szm (szm σ a y1 y2 m1 y4) o h l m u) : frS σ τ ∧ gJ τ 8 o = h ∧ gJ τ 9 o = l ∧ gZ τ 10 o = m ∧ gI τ 11 o = u := by
  subst e
  exact ⟨frS_trans (frS_szm _ _ _ _ _ _) (frS_szm _ _ _ _ _ _), szm_8 _ _ _ _ _ _, szm_9 _ _ _ _ _ _, szm_10 _ _ _ _ _ _, szm_11 _ _ _ _ _ _⟩
theorem add_exact {σ : St} {o p Fa Fb : Nat} {ea eb : Int} (hop : o ≠ p) (ha : Loaded σ o Fa ea) (hb : Loaded σ p Fb eb) (hea : -16445 ≤ ea ∧ ea ≤ 16321) (heb : -16445 ≤ eb ∧ eb ≤ 16321) (h : Above σ o p) (lo : Int) (x y : Nat) (hx : ea = lo + x) (hy : eb = lo + y) (hlo : lo = ea ∨ lo = eb) :
    frS σ (f_Size_add σ o p) ∧ SizeIs (f_Size_add σ o p) o (Fa * 2 ^ x + Fb * 2 ^ y) false lo := by
  have ra := unit_rng ha hea
  have rb := unit_rng hb heb
  obtain ⟨d, hd⟩ : ∃ d : Nat, (gI σ 11 o).toInt = (gI σ 11 p).toInt + d := ⟨((gI σ 11 o).toInt - (gI σ 11 p).toInt).toNat, by rcases h with h | h <;> omega⟩
  obtain ⟨z, -⟩ := above_le ha hb hea heb h d hd
  obtain ⟨y1, y2, y4, hh, l, u, c1, c2⟩ := add_spec σ o p hop ha.1 ha.2.1 hb.1 hb.2.1 (by omega) d hd (by omega) _ rfl _ rfl
  obtain ⟨f1, g8, g9, g10, g11⟩ := frame_sz c1
  refine ⟨f1, ?_⟩
  obtain ⟨s1, s2⟩ := @sum_cut (uN (gJ σ 8 o)) (uN (gJ σ 8 p)) d
  rcases ha.2.2 with ⟨a1, a2, a3⟩ | ⟨a1, ja, a2, a3, a4⟩
  · -- both are nothing
    have b0 := z a1
    rcases hb.2.2 with ⟨b1, b2, b3⟩ | ⟨b1, jb, b2, b3, b4⟩
    · rcases c2 with ⟨-, q1, q2⟩ | ⟨q1, j, q2, q3, q4⟩
      · refine Or.inl ⟨?_, by rw [g8, q1], by rw [g9, q2]⟩
        rw [a1, b0]
        simp
      · rw [uN_eq0.mp a2, uN_eq0.mp b2] at q3
        simp at q3
        omega
    · rw [b0, Nat.zero_mul] at b3
      omega
  · have hFa : Fa ≠ 0 := (Loaded_F ha).mpr a1
    have bS : 2 ^ 126 ≤ uN (gJ σ 8 o) * 2 ^ 63 + uN (gJ σ 8 p) * 2 ^ 64 / 2 ^ (d + 1) := Nat.le_trans (by omega) (Nat.le_add_right _ _)
    rcases c2 with ⟨q0, -, -⟩ | ⟨q1, j, q2, q3, q4⟩
    · rw [q0] at bS
      omega
    · skip
      obtain ⟨jb, hjb, hbF⟩ : ∃ jb : Nat, uN (gJ σ 8 p) = Fb * 2 ^ jb ∧ ((Fb = 0 ∧ (gI σ 11 p).toInt = -17000) ∨ eb = (gI σ 11 p).toInt + 64 + jb) := by
        rcases hb.2.2 with ⟨b1, b2, b3⟩ | ⟨b1, jb, b2, b3, b4⟩
        · exact ⟨0, by rw [uN_eq0.mp b2, b1], Or.inl ⟨b1, b3⟩⟩
        · exact ⟨jb, b3, Or.inr (by omega)⟩
      obtain ⟨g, hg⟩ : ∃ g : Nat, lo = (gI σ 11 p).toInt + g := ⟨(lo - (gI σ 11 p).toInt).toNat, by rcases hbF with q | q <;> rcases hlo with w | w <;> omega⟩
      have hV := @sum_V Fa Fb ja jb d x y g (by omega) (by rcases hbF with q | q; exact Or.inl q.1; exact Or.inr (by omega))
      rw [← a3, ← hjb] at hV
      refine Or.inr ⟨?_, by rw [g8]; exact q1, by rw [g11]; omega, ?_⟩
      · have := Nat.mul_pos (Nat.pos_of_ne_zero hFa) (pow_pos2 x)
        omega
      · rw [g8, g9, g10, g11]
        refine Rep_cut (k := d + 1) (j := j) (b := (gI σ 11 p).toInt) s1.symm ?_ hV (by omega) q3 (by omega) (Lg127 q1) ?_
        · rw [s2, Bool.false_or]
        · right
          right
          refine ⟨?_, by omega⟩
          refine Classical.byContradiction (fun w => ?_)
          have w1 : 2 ^ 64 ≤ 2 ^ j := Nat.pow_le_pow_right (by decide) (by omega)
          have w2 : 2 ^ 126 * 2 ^ 64 ≤ (uN (gJ σ 8 o) * 2 ^ 63 + uN (gJ σ 8 p) * 2 ^ 64 / 2 ^ (d + 1)) * 2 ^ j := Nat.mul_le_mul bS w1
          rw [← q3] at w2
          have b1 := uN_lt2 hh
          have b2 := uN_lt2 l
          have e : (2 : Nat) ^ 126 * 2 ^ 64 = 1569275433846670190958947355801916604025588861116008628224 := by decide
          rw [e] at w2
          omega
theorem sub_exact {σ : St} {o p Fa Fb : Nat} {ea eb : Int} (hop : o ≠ p) (ha : Loaded σ o Fa ea) (hb : Loaded σ p Fb eb) (hea : -16445 ≤ ea ∧ ea ≤ 16321) (heb : -16445 ≤ eb ∧ eb ≤ 16321) (h : Above σ o p) (lo : Int) (x y : Nat) (hx : ea = lo + x) (hy : eb = lo + y) (hlo : lo = ea ∨ lo = eb) :
    frS σ (f_Size_subtract σ o p) ∧ SizeIs (f_Size_subtract σ o p) o (Fa * 2 ^ x - Fb * 2 ^ y) false lo := by
  have ra := unit_rng ha hea
  have rb := unit_rng hb heb
  obtain ⟨d, hd⟩ : ∃ d : Nat, (gI σ 11 o).toInt = (gI σ 11 p).toInt + d := ⟨((gI σ 11 o).toInt - (gI σ 11 p).toInt).toNat, by rcases h with h | h <;> omega⟩
  obtain ⟨z, hle⟩ := above_le ha hb hea heb h d hd
  obtain ⟨s1, s2⟩ := dif_cut hle
  obtain ⟨y1, y2, y4, hh, l, u, c1, c2⟩ := subtract_spec σ o p hop ha.1 ha.2.1 hb.1 hb.2.1 (by omega) d hd (by omega) _ rfl _ s1
  obtain ⟨f1, g8, g9, g10, g11⟩ := frame_sz c1
  refine ⟨f1, ?_⟩
  rcases ha.2.2 with ⟨a1, a2, a3⟩ | ⟨a1, ja, a2, a3, a4⟩
  · -- both are nothing
    have b0 := z a1
    rcases c2 with ⟨-, q1, q2⟩ | ⟨q1, j, q2, q3, q4⟩
    · refine Or.inl ⟨?_, by rw [g8, q1], by rw [g9, q2]⟩
      rw [a1, b0]
      simp
    · rw [uN_eq0.mp a2] at q3
      simp at q3
      omega
  · have hFa : Fa ≠ 0 := (Loaded_F ha).mpr a1
    obtain ⟨jb, hjb, hbF⟩ : ∃ jb : Nat, uN (gJ σ 8 p) = Fb * 2 ^ jb ∧ ((Fb = 0 ∧ (gI σ 11 p).toInt = -17000) ∨ eb = (gI σ 11 p).toInt + 64 + jb) := by
      rcases hb.2.2 with ⟨b1, b2, b3⟩ | ⟨b1, jb, b2, b3, b4⟩
      · exact ⟨0, by rw [uN_eq0.mp b2, b1], Or.inl ⟨b1, b3⟩⟩
      · exact ⟨jb, b3, Or.inr (by omega)⟩
    obtain ⟨g, hg⟩ : ∃ g : Nat, lo = (gI σ 11 p).toInt + g := ⟨(lo - (gI σ 11 p).toInt).toNat, by rcases hbF with q | q <;> rcases hlo with w | w <;> omega⟩
    have hV := @dif_V Fa Fb ja jb d x y g (by omega) (by rcases hbF with q | q; exact Or.inl q.1; exact Or.inr (by omega))
    rw [← a3, ← hjb] at hV
    -- a cut part means that much is left
    have big : uN (gJ σ 8 p) * 2 ^ 64 % 2 ^ (d + 1) ≠ 0 → 2 ^ 65 ≤ (uN (gJ σ 8 o) * 2 ^ 64 * 2 ^ d - uN (gJ σ 8 p) * 2 ^ 64) / 2 ^ (d + 1) := fun q => by
      have d64 := mod_small q
      have bb := uN_lt2 (gJ σ 8 p)
      have b3 : uN (gJ σ 8 p) * 2 ^ 64 / 2 ^ (d + 1) < 2 ^ 64 := by
        rw [Nat.div_lt_iff_lt_mul (pow_pos2 _)]
        have : 2 ^ 64 * 2 ^ 64 ≤ 2 ^ 64 * 2 ^ (d + 1) := Nat.mul_le_mul_left _ (Nat.pow_le_pow_right (by decide) (by omega))
        exact Nat.lt_of_lt_of_le (Nat.mul_lt_mul_of_pos_right bb (by decide)) this
      have b4 : (decide (uN (gJ σ 8 p) * 2 ^ 64 % 2 ^ (d + 1) ≠ 0)).toNat ≤ 1 := Bool.toNat_le _
      generalize (decide (uN (gJ σ 8 p) * 2 ^ 64 % 2 ^ (d + 1) ≠ 0)).toNat = c at *
      generalize uN (gJ σ 8 p) * 2 ^ 64 / 2 ^ (d + 1) = Y at *
      generalize (uN (gJ σ 8 o) * 2 ^ 64 * 2 ^ d - uN (gJ σ 8 p) * 2 ^ 64) / 2 ^ (d + 1) = S at *
      clear hV c2 s2 hle c1
      omega
    have zN : ∀ V : Nat, V = (Fa * 2 ^ x - Fb * 2 ^ y) * 2 ^ g → (V = 0 ↔ Fa * 2 ^ x - Fb * 2 ^ y = 0) := fun V q => by
      rw [q, Nat.mul_eq_zero]
      have := pow_pos2 g
      constructor
      · intro w
        rcases w with w | w
        · exact w
        · omega
      · exact Or.inl
    have zN2 := zN _ hV
    rcases c2 with ⟨q0, q1, q2⟩ | ⟨q1, j, q2, q3, q4⟩
    · refine Or.inl ⟨?_, by rw [g8, q1], by rw [g9, q2]⟩
      apply zN2.mp
      by_cases c : uN (gJ σ 8 p) * 2 ^ 64 % 2 ^ (d + 1) ≠ 0
      · have := big c
        rw [q0] at this
        omega
      · have c' : (uN (gJ σ 8 o) * 2 ^ 64 * 2 ^ d - uN (gJ σ 8 p) * 2 ^ 64) % 2 ^ (d + 1) = 0 := Classical.byContradiction (fun w => c (s2.mp w))
        have dm := Nat.div_add_mod (uN (gJ σ 8 o) * 2 ^ 64 * 2 ^ d - uN (gJ σ 8 p) * 2 ^ 64) (2 ^ (d + 1))
        rw [q0, c', Nat.mul_zero] at dm
        exact dm.symm
    · refine Or.inr ⟨?_, by rw [g8]; exact q1, by rw [g11]; omega, ?_⟩
      · intro w
        have v0 := zN2.mpr w
        rw [v0, Nat.zero_div, Nat.zero_mul] at q3
        omega
      · rw [g8, g9, g10, g11]
        refine Rep_cut (k := d + 1) (j := j) (b := (gI σ 11 p).toInt) rfl ?_ hV (by omega) q3 (by omega) (Lg127 q1) ?_
        · rw [Bool.false_or]
          by_cases c : uN (gJ σ 8 p) * 2 ^ 64 % 2 ^ (d + 1) ≠ 0
          · rw [decide_eq_true c, decide_eq_true (s2.mpr c)]
          · rw [decide_eq_false c, decide_eq_false (fun w => c (s2.mp w))]
        · by_cases c : uN (gJ σ 8 p) * 2 ^ 64 % 2 ^ (d + 1) ≠ 0
          · right
            left
            have bS := big c
            refine Classical.byContradiction (fun w => ?_)
            have w1 : 2 ^ 63 ≤ 2 ^ j := Nat.pow_le_pow_right (by decide) (by omega)
            have w2 := Nat.mul_le_mul bS w1
            rw [← q3] at w2
            have b1 := uN_lt2 hh
            have b2 := uN_lt2 l
            have e : (2 : Nat) ^ 65 * 2 ^ 63 = 340282366920938463463374607431768211456 := by decide
            rw [e] at w2
            omega
          · exact Or.inl ⟨decide_eq_false c, rfl⟩
