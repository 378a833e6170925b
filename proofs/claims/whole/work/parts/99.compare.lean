/-! comparing -/
def sgS (A : Re) : Int := if isNil A.2.1 A.2.2 then 0 else if A.1 then -1 else 1
def cmpI (a b : Int) : Int := if a = b then 0 else if a < b then -1 else 1
def cmpN (a b : Nat) : Int := if a < b then -1 else if a = b then 0 else 1
def shB (A B : Re) : Nat := B.2.2 * 2 ^ (unitN B.2.1 - lowS A B).toNat
def ordS (w : Nat) (A B : Re) : Int :=
  if isInf A.2.1 A.2.2 || isInf B.2.1 B.2.2 then (if one2 w then 0 else cmpI (if isInf A.2.1 A.2.2 then sgS A else 0) (if isInf B.2.1 B.2.2 then sgS B else 0))
  else if sgS A = sgS B then sgS A * cmpN (shS A B) (shB A B)
  else cmpI (sgS A) (sgS B)
def apartS (w : Nat) (A B : Re) : Bool := one2 w && (isInf A.2.1 A.2.2 != isInf B.2.1 B.2.2)
def compS (w : Nat) (A B : Re) : Nat × Int := ((setS w A B (apartS w A B)).map (fun R => (R.1, (2 : Int)))).getD (denS A B, ordS w A B)
theorem sign_C {σ : St} {a P F : Nat} {m : Bool} (h : RealIs σ a m P F) : (f_Steps_sign σ a).toInt = sgS (m, P, F) := by
  unfold f_Steps_sign sgS
  rw [nil_N h, h.1]
  show _ = if isNil P F = true then (0 : Int) else if m = true then -1 else 1
  cases isNil P F <;> cases m <;> rfl
theorem sg3 (A : Re) : sgS A = 0 ∨ sgS A = -1 ∨ sgS A = 1 := by
  unfold sgS
  split
  · exact Or.inl rfl
  · split
    · exact Or.inr (Or.inl rfl)
    · exact Or.inr (Or.inr rfl)
theorem cmp3 {x y : Int32} {a b : Int} (hx : x.toInt = a) (hy : y.toInt = b) : (if x = y then (0 : Int32) else if y ≤ x then 1 else -1).toInt = cmpI a b := by
  have e : (x = y) ↔ a = b := by rw [← Int32.toInt_inj, hx, hy]
  have l : (y ≤ x) ↔ b ≤ a := by rw [Int32.le_iff_toInt_le, hx, hy]
  unfold cmpI
  simp only [e, l]
  by_cases c1 : a = b
  · simp [c1]
  · by_cases c2 : b ≤ a
    · have : ¬ a < b := by omega
      simp [c1, c2, this]
    · have : a < b := by omega
      simp [c1, c2, this]
theorem mul_sg {x y : Int32} {a b : Int} (hx : x.toInt = a) (hy : y.toInt = b) (ha : a = 0 ∨ a = -1 ∨ a = 1) (hb : b = 0 ∨ b = -1 ∨ b = 1) : (x * y).toInt = a * b := by
  rw [Int32.toInt_mul, hx, hy]
  rcases ha with rfl | rfl | rfl <;> rcases hb with rfl | rfl | rfl <;> decide
theorem load67 (σ : St) (a b Pa Pb Fa Fb : Nat) (ma mb : Bool) (ha : RealIs σ a ma Pa Fa) (hb : RealIs σ b mb Pb Fb) : frS σ (f_Size_load (f_Size_load σ 6 a) 7 b) ∧ Loaded (f_Size_load (f_Size_load σ 6 a) 7 b) 6 Fa (unitN Pa) ∧ Loaded (f_Size_load (f_Size_load σ 6 a) 7 b) 7 Fb (unitN Pb) := by
  obtain ⟨h, u, c1, c2⟩ := load_spec σ 6 a Pa ha.2.2.2 ha.2.1
  have f1 := frS_szm σ 6 h 0 false u
  have hb' := RealIs_fr hb f1
  obtain ⟨h1, u1, d1, d2⟩ := load_spec (szm σ 6 h 0 false u) 7 b Pb hb.2.2.2 hb'.2.1
  rw [hb'.2.2.1] at d2
  rw [ha.2.2.1] at c2
  rw [c1, d1]
  exact ⟨frS_trans f1 (frS_szm _ _ _ _ _ _), Loaded_other (by decide) c2, d2⟩
theorem against_C {σ : St} {A B : Re} (ha : Loaded σ 6 A.2.2 (unitN A.2.1)) (hb : Loaded σ 7 B.2.2 (unitN B.2.1)) (pa : A.2.1 ≤ 32767) (pb : B.2.1 ≤ 32767) : (f_Size_against σ 6 7).toInt = cmpN (shS A B) (shB A B) := by
  have ea := unitN_rng pa
  have eb := unitN_rng pb
  obtain ⟨x1, x2, x3⟩ := low_split A B
  have x3' : lowS A B = unitN B.2.1 ∨ lowS A B = unitN A.2.1 := by
    rcases x3 with q | q
    · exact Or.inr q
    · exact Or.inl q
  unfold cmpN shS shB
  rcases against_cases σ 6 7 with ⟨v, c1, c2⟩ | ⟨v, c⟩ | ⟨v, c⟩
  · have E := same_val ha hb ea eb (lowS A B) _ _ x1 x2 x3 c1 c2
    rw [v, E]
    simp
  · have E := less_val hb ha eb ea (lowS A B) _ _ x2 x1 x3' c
    rw [v, if_pos E]
    rfl
  · have E := less_val ha hb ea eb (lowS A B) _ _ x1 x2 x3 c
    rw [v, if_neg (by omega), if_neg (by omega)]
    rfl
theorem cmpN3 (a b : Nat) : cmpN a b = 0 ∨ cmpN a b = -1 ∨ cmpN a b = 1 := by
  unfold cmpN
  split
  · exact Or.inr (Or.inl rfl)
  · split
    · exact Or.inl rfl
    · exact Or.inr (Or.inr rfl)
theorem compare_C {σ : St} {w t a b a4 : Nat} {A B : Re} (hs : gI σ 6 3 = nI w) (hw : w < 65536) (ht : gI σ 7 3 = nI t) (htt : t < 64) (hne : endsN w t = false) (ha : RealIs σ a A.1 A.2.1 A.2.2) (hb : RealIs σ b B.1 B.2.1 B.2.2) (n1 : a ≠ a4) (n2 : b ≠ a4) :
    (f_Steps_compare σ a b a4).1.toInt = (compS w A B).2 ∧ frR a4 σ (f_Steps_compare σ a b a4).2 ∧ gI (f_Steps_compare σ a b a4).2 7 3 = nI (t ||| (compS w A B).1) ∧ (compS w A B).1 < 64 := by
  have cn : (if one2 w = true then if isInf A.2.1 A.2.2 = isInf B.2.1 B.2.2 then false else true else false) = apartS w A B := by
    unfold apartS
    cases one2 w <;> cases isInf A.2.1 A.2.2 <;> cases isInf B.2.1 B.2.2 <;> rfl
  unfold f_Steps_compare compS
  simp only [one_N hs hw, inf_N ha, inf_N hb, cn]
  rcases settle_C (a4 := a4) (cn := apartS w A B) hs hw ht htt hne ha hb with ⟨R, τ, e1, e2, e3⟩ | ⟨e1, e2, d2, en, nn, e6⟩
  · rw [e1, e2]
    simp only [if_true]
    exact ⟨rfl, e3.1, e3.2.1, e3.2.2.1⟩
  · rw [e1, e2]
    simp only [Bool.false_eq_true, if_false]
    show _ = ordS w A B ∧ _ ∧ gI _ 7 3 = nI (t ||| denS A B) ∧ denS A B < 64
    have f1 : frR a4 σ (f_Ctl_tell σ (nI (denS A B))) := frR_tell _ _ _
    have t1 : gI (f_Ctl_tell σ (nI (denS A B))) 7 3 = nI (t ||| denS A B) := by rw [tell_7, ht, nI_or _ _ (by omega) (by omega)]
    have ra := RealIs_frR ha f1 n1
    have rb := RealIs_frR hb f1 n2
    have dl : denS A B < 64 := by omega
    generalize f_Ctl_tell σ (nI (denS A B)) = ρ at *
    have sa := sign_C ra
    have sb := sign_C rb
    unfold f_Steps_compare_b59 ordS
    simp only [inf_N ra, inf_N rb]
    have b59 : (if one2 w = true then (0 : Int32) else if (if isInf A.2.1 A.2.2 = true then f_Steps_sign ρ a else 0) = (if isInf B.2.1 B.2.2 = true then f_Steps_sign ρ b else 0) then 0 else if (if isInf B.2.1 B.2.2 = true then f_Steps_sign ρ b else 0) ≤ (if isInf A.2.1 A.2.2 = true then f_Steps_sign ρ a else 0) then 1 else -1).toInt = (if one2 w then 0 else cmpI (if isInf A.2.1 A.2.2 then sgS A else 0) (if isInf B.2.1 B.2.2 then sgS B else 0)) := by
      cases one2 w with
      | true => rfl
      | false =>
        simp only [Bool.false_eq_true, if_false]
        apply cmp3
        · cases isInf A.2.1 A.2.2
          · rfl
          · exact sa
        · cases isInf B.2.1 B.2.2
          · rfl
          · exact sb
    by_cases ia : isInf A.2.1 A.2.2 = true
    · simp only [ia, if_true, Bool.true_or] at b59 ⊢
      exact ⟨b59, f1, t1, dl⟩
    · have ia' : isInf A.2.1 A.2.2 = false := by simpa using ia
      by_cases ib : isInf B.2.1 B.2.2 = true
      · simp only [ia', ib, if_true, Bool.false_eq_true, if_false, Bool.or_true] at b59 ⊢
        exact ⟨b59, f1, t1, dl⟩
      · have ib' : isInf B.2.1 B.2.2 = false := by simpa using ib
        simp only [ia', ib', Bool.false_eq_true, if_false, Bool.or_self]
        have eq : (f_Steps_sign ρ a = f_Steps_sign ρ b) ↔ sgS A = sgS B := by
          rw [← Int32.toInt_inj, sa, sb]
        by_cases sg : sgS A = sgS B
        · rw [if_pos (eq.mpr sg), if_pos sg]
          obtain ⟨f2, la, lb⟩ := load67 ρ a b _ _ _ _ _ _ ra rb
          refine ⟨mul_sg sa (against_C la lb ha.2.2.2 hb.2.2.2) (sg3 A) (cmpN3 _ _), frR_trans f1 (frR_S f2), ?_, dl⟩
          rw [f2.1 7 3 (by decide)]
          exact t1
        · have ne : ¬ f_Steps_sign ρ a = f_Steps_sign ρ b := fun q => sg (eq.mp q)
          rw [if_neg ne, if_neg sg]
          refine ⟨?_, f1, t1, dl⟩
          have := cmp3 sa sb
          rw [if_neg ne] at this
          exact this
/-! the reference's comparing -/
theorem apart_M {τ : St} {a : Int32} {i : Nat} {A : Re} (ja : jat a = i) (h : RegIs τ 110 111 i A) (h0 : A.2.2 ≠ 0) : ∃ (v : Int64) (f : Int32) (j : Nat), f_MS_apart τ a = sI (sJ τ 34 42 v) 35 42 f ∧ j < 64 ∧ uN v = A.2.2 * 2 ^ j ∧ 2 ^ 63 ≤ uN v ∧ f.toInt = unitN A.2.1 + 63 - j := by
  have su := sunit_M ja h
  have er := unitN_rng h.2.2
  have e63 := q63 su ⟨by omega, by omega⟩
  have su1 : f_MS_unit (sJ τ 34 42 (gJ τ 111 i)) a = f_MS_unit τ a := rfl
  have g34 : gJ (sI (sJ τ 34 42 (gJ τ 111 i)) 35 42 (f_MS_unit τ a + 63)) 34 42 = gJ τ 111 i := by simp [gJ_sI, gJ_sJ]
  obtain ⟨v, f, j, c1, c2, c3, c4, c5⟩ := apart_loop τ (gJ τ 111 i) (f_MS_unit τ a + 63) (by omega) (by rw [h.2.1]; exact h0)
  refine ⟨v, f, j, ?_, c2, by rw [c3, h.2.1], c4, by rw [c5, e63]⟩
  unfold f_MS_apart
  simp only [ja, su1, g34]
  exact c1
/-- two numbers by their highest digits -/
theorem cmp_num {A B : Re} {vA vB : Int64} {ja jb : Nat} (pa : A.2.1 ≤ 32767) (pb : B.2.1 ≤ 32767) (ja1 : ja < 64) (jb1 : jb < 64) (hA : uN vA = A.2.2 * 2 ^ ja) (hA2 : 2 ^ 63 ≤ uN vA) (hB : uN vB = B.2.2 * 2 ^ jb) (hB2 : 2 ^ 63 ≤ uN vB) :
    cmpN (shS A B) (shB A B) = (if unitN A.2.1 - ja = unitN B.2.1 - jb then cmpN (uN vA) (uN vB) else if unitN A.2.1 - ja < unitN B.2.1 - jb then -1 else 1) := by
  have ea := unitN_rng pa
  have eb := unitN_rng pb
  obtain ⟨x1, x2, x3⟩ := low_split A B
  have x3' : lowS A B = unitN B.2.1 ∨ lowS A B = unitN A.2.1 := by
    rcases x3 with q | q
    · exact Or.inr q
    · exact Or.inl q
  -- a state that holds both sizes
  have ti : ∀ z : Int, -20000 ≤ z ∧ z ≤ 20000 → (Int32.ofInt z).toInt = z := fun z hz => by
    rw [Int32.toInt_ofInt, Int.bmod_eq_of_le (by show -(((4294967296 : Nat) : Int) / 2) ≤ z; omega) (by show z < ((4294967296 : Nat) + 1 : Int) / 2; omega)]
  let σ : St := szm (szm (fun _ _ => 0, fun _ _ => 0, fun _ _ => false) 6 vA 0 false (Int32.ofInt (unitN A.2.1 - 64 - ja))) 7 vB 0 false (Int32.ofInt (unitN B.2.1 - 64 - jb))
  have uA : (gI σ 11 6).toInt = unitN A.2.1 - 64 - ja := by
    have : gI σ 11 6 = Int32.ofInt (unitN A.2.1 - 64 - ja) := by
      show gI (szm _ 7 vB 0 false _) 11 6 = _
      rw [szm_I, if_pos rfl, if_neg (by decide), szm_11]
    rw [this, ti _ ⟨by omega, by omega⟩]
  have uB : (gI σ 11 7).toInt = unitN B.2.1 - 64 - jb := by
    have : gI σ 11 7 = Int32.ofInt (unitN B.2.1 - 64 - jb) := szm_11 _ _ _ _ _ _
    rw [this, ti _ ⟨by omega, by omega⟩]
  have h8A : gJ σ 8 6 = vA := by
    show gJ (szm _ 7 vB 0 false _) 8 6 = _
    rw [szm_J]
    simp [szm_8]
  have h8B : gJ σ 8 7 = vB := szm_8 _ _ _ _ _ _
  have h9A : gJ σ 9 6 = 0 := by
    show gJ (szm _ 7 vB 0 false _) 9 6 = _
    rw [szm_J]
    simp [szm_9]
  have h9B : gJ σ 9 7 = 0 := szm_9 _ _ _ _ _ _
  have h10A : gZ σ 10 6 = false := by
    show gZ (szm _ 7 vB 0 false _) 10 6 = _
    rw [szm_Z]
    simp [szm_10]
  have h10B : gZ σ 10 7 = false := szm_10 _ _ _ _ _ _
  have la : Loaded σ 6 A.2.2 (unitN A.2.1) := ⟨h9A, h10A, Or.inr ⟨by rw [h8A]; exact hA2, ja, ja1, by rw [h8A]; exact hA, uA⟩⟩
  have lb : Loaded σ 7 B.2.2 (unitN B.2.1) := ⟨h9B, h10B, Or.inr ⟨by rw [h8B]; exact hB2, jb, jb1, by rw [h8B]; exact hB, uB⟩⟩
  have same := fun h1 h2 => same_val la lb ea eb (lowS A B) _ _ x1 x2 x3 h1 h2
  have lt1 := fun h => less_val lb la eb ea (lowS A B) _ _ x2 x1 x3' h
  have lt2 := fun h => less_val la lb ea eb (lowS A B) _ _ x1 x2 x3 h
  rw [uA, uB, h8A, h8B] at same lt1 lt2
  unfold cmpN shS shB
  by_cases c1 : unitN A.2.1 - ja = unitN B.2.1 - jb
  · rw [if_pos c1]
    by_cases c2 : uN vA < uN vB
    · have := lt1 (Or.inr ⟨by omega, c2⟩)
      rw [if_pos this, if_pos c2]
    · by_cases c3 : uN vA = uN vB
      · have := same (by omega) c3.symm
        rw [if_neg c2, if_pos c3, this]
        simp
      · have := lt2 (Or.inr ⟨by omega, by omega⟩)
        rw [if_neg (by omega), if_neg (by omega), if_neg c2, if_neg c3]
  · rw [if_neg c1]
    by_cases c2 : unitN A.2.1 - ja < unitN B.2.1 - jb
    · have := lt1 (Or.inl (by omega))
      rw [if_pos this, if_pos c2]
    · have := lt2 (Or.inl (by omega))
      rw [if_neg (by omega), if_neg (by omega), if_neg c2]
