/-! the reference's sum -/
theorem nothing_M {τ : St} {a : Int32} {P F : Nat} (h1 : gI τ 107 (jat a) = nI P) (h2 : uN (gJ τ 108 (jat a)) = F) (hP : P < 32767) : f_MO_isNothing τ a = decide (F = 0) := by
  unfold f_MO_isNothing
  have c1 : ¬ (32767 : Int32) ≤ nI P := nI_ge (b := 32767) hP (by decide)
  rw [h1]
  simp only [c1, if_false, uN_eq0, h2]
  by_cases c : F = 0 <;> simp [c]
theorem rowst_join (τ : St) (n : Nat) (lo : Int32) (m : Bool) (r : Nat → Bool) (f : Int64) (p : Nat) (away : Bool) (N0 N' : Nat) (hn : n ≤ 33000) (hr : rowN r n = N0) (hp : p + 64 ≤ n) (hN : if away then N' + uN f * 2 ^ p = N0 else N' = N0 + uN f * 2 ^ p) (hlt : N' < 2 ^ n) : ∃ r1 : Nat → Bool, f_MO_join (rowst τ (nI n) lo m r) f (nI p) away = rowst τ (nI n) lo m r1 ∧ rowN r1 n = N' := by
  have h18 : gI (rowst τ (nI n) lo m r) 18 35 = nI n := by simp [rowst, setRow_I, gI_sI, gI_sZ]
  have h109 : gZ (rowst τ (nI n) lo m r) 109 = r := setRow_109 _ _
  obtain ⟨r1, c1, c2⟩ := join_M (rowst τ (nI n) lo m r) f p n away hn h18 hp N' (by rw [h109, hr]; exact hN) hlt
  exact ⟨r1, by rw [c1]; exact setRow_setRow _ _ _, c2⟩
theorem sum_nums {τ : St} {A B : Re} (hA : OpIs τ 0 A.1 A.2.1 A.2.2) (hB : OpIs τ 1 B.1 B.2.1 B.2.2) (lo : Int32) (hlo : (if (f_MO_unitOf τ 1) ≤ (f_MO_unitOf τ 0) then f_MO_unitOf τ 1 else f_MO_unitOf τ 0) = lo) (X Y : Nat) (hX : X = (unitN A.2.1 - lowS A B).toNat) (hY : Y = (unitN B.2.1 - lowS A B).toNat) :
    lo.toInt = lowS A B ∧ (-16445 ≤ lowS A B ∧ lowS A B ≤ 16321) ∧ f_MO_unitOf τ 0 - lo = nI X ∧ f_MO_unitOf τ 1 - lo = nI Y ∧ X < 33000 ∧ Y < 33000 ∧ X + Y ≤ 32766 ∧ (f_MO_unitOf τ 0 + f_MO_unitOf τ 1) - (2 * lo) + 66 = nI (X + Y + 66) := by
  have u0 := unit_M (τ := τ) (a := 0) (P := A.2.1) hA.2.1 hA.2.2.1
  have u1 := unit_M (τ := τ) (a := 1) (P := B.2.1) hB.2.1 hB.2.2.1
  have r0 := unitN_rng hA.2.2.1
  have r1 := unitN_rng hB.2.2.1
  generalize f_MO_unitOf τ 0 = U0 at *
  generalize f_MO_unitOf τ 1 = U1 at *
  have el : lo.toInt = lowS A B := by
    rw [← hlo]
    unfold lowS
    by_cases c : U1 ≤ U0
    · have := Int32.le_iff_toInt_le.mp c
      rw [if_pos c, u1]
      split <;> omega
    · have : ¬ U1.toInt ≤ U0.toInt := fun q => c (Int32.le_iff_toInt_le.mpr q)
      rw [if_neg c, u0]
      split <;> omega
  have hl : lowS A B = unitN A.2.1 ∧ lowS A B ≤ unitN B.2.1 ∨ lowS A B = unitN B.2.1 ∧ lowS A B ≤ unitN A.2.1 := by
    unfold lowS
    split <;> omega
  have e2 : (2 : Int32).toInt = 2 := by decide
  have e66 : (66 : Int32).toInt = 66 := by decide
  clear hlo
  generalize lowS A B = L at *
  generalize unitN A.2.1 = a at *
  generalize unitN B.2.1 = b at *
  have x1 : (nI X).toInt = X := nI_toInt (by omega)
  have y1 : (nI Y).toInt = Y := nI_toInt (by omega)
  have z1 : (nI (X + Y + 66)).toInt = ((X + Y + 66 : Nat) : Int) := nI_toInt (by omega)
  refine ⟨el, by omega, ?_, ?_, by omega, by omega, by omega, ?_⟩
  · apply Int32.toInt_inj.mp
    rw [i32_subT (by omega) (by omega), x1]
    omega
  · apply Int32.toInt_inj.mp
    rw [i32_subT (by omega) (by omega), y1]
    omega
  · apply Int32.toInt_inj.mp
    have q1 : (U0 + U1).toInt = a + b := by rw [i32_addT (by omega) (by omega), u0, u1]
    have q2 : (2 * lo).toInt = 2 * L := by
      rw [Int32.toInt_mul, e2, el, Int.bmod_eq_of_le (by omega) (by omega)]
    have q3 : (U0 + U1 - 2 * lo).toInt = a + b - 2 * L := by rw [i32_subT (by omega) (by omega), q1, q2]
    rw [i32_addT (by omega) (by omega), q3, e66, z1]
    omega
theorem pow_bnd {F x m : Nat} (hF : F < 2 ^ 64) (hx : x ≤ m) : F * 2 ^ x < 2 ^ (m + 64) := by
  have : (2 : Nat) ^ (m + 64) = 2 ^ 64 * 2 ^ m := by rw [← Nat.pow_add]; congr 1; omega
  rw [this]
  exact Nat.lt_of_lt_of_le (Nat.mul_lt_mul_of_pos_right hF (pow_pos2 x)) (Nat.mul_le_mul_left _ (Nat.pow_le_pow_right (by decide) hx))
theorem log2_le {N k : Nat} (h : N < 2 ^ k) (h0 : N ≠ 0) : N.log2 < k := (Nat.log2_lt h0).mpr h
theorem rowst_unit (τ : St) (n lo : Int32) (m : Bool) (r : Nat → Bool) (a : Int32) : f_MO_unitOf (rowst τ n lo m r) a = f_MO_unitOf τ a := rfl
theorem sum_M {τ : St} {A B : Re} {w t0 : Nat} (hA : OpIs τ 0 A.1 A.2.1 A.2.2) (hB : OpIs τ 1 B.1 B.2.1 B.2.2) (pa : A.2.1 < 32767) (pb : B.2.1 < 32767) (hwd : gI τ 16 35 = nI w) (hw : w < 65536) (ht : gI τ 21 35 = nI t0) :
    Made τ (f_MO_sum τ) t0 (numS 0 w A B).1 (SPz w (digitsOf w) (numS 0 w A B).1 (numS 0 w A B).2.1 (numS 0 w A B).2.2.1 (numS 0 w A B).2.2.2) := by
  have j0 : jat 0 = 0 := by decide
  have j1 : jat 1 = 1 := by decide
  obtain ⟨lo, hlo⟩ : ∃ lo : Int32, (if (f_MO_unitOf τ 1) ≤ (f_MO_unitOf τ 0) then f_MO_unitOf τ 1 else f_MO_unitOf τ 0) = lo := ⟨_, rfl⟩
  obtain ⟨X, hX⟩ : ∃ X : Nat, X = (unitN A.2.1 - lowS A B).toNat := ⟨_, rfl⟩
  obtain ⟨Y, hY⟩ : ∃ Y : Nat, Y = (unitN B.2.1 - lowS A B).toNat := ⟨_, rfl⟩
  obtain ⟨l1, l2, l3, l4, l5, l6, l7, l8⟩ := sum_nums hA hB lo hlo X Y hX hY
  have fa := uN_lt2 (gJ τ 108 0)
  have fb := uN_lt2 (gJ τ 108 1)
  rw [hA.2.2.2] at fa
  rw [hB.2.2.2] at fb
  have ba := pow_bnd (x := X) (m := X + Y) fa (by omega)
  have bb := pow_bnd (x := Y) (m := X + Y) fb (by omega)
  have p66 : (2 : Nat) ^ (X + Y + 66) = 2 ^ (X + Y + 64) * 4 := by rw [show X + Y + 66 = X + Y + 64 + 2 from rfl, Nat.pow_add]
  have nm : numS 0 w A B = (sumG w A.1 B.1 (A.2.2 * 2 ^ X) (B.2.2 * 2 ^ Y), sumN A.1 B.1 (A.2.2 * 2 ^ X) (B.2.2 * 2 ^ Y), false, lowS A B) := by
    unfold numS shS
    rw [if_pos rfl, ← hX, ← hY]
  rw [nm, ← l1]
  clear nm
  -- less
  have ls : f_MO_isLess τ = decide (A.2.2 * 2 ^ X < B.2.2 * 2 ^ Y) := by
    unfold f_MO_isLess
    simp only [hlo, l3, l4]
    rw [isLess_loop τ X Y (by omega) (by omega), hA.2.2.2, hB.2.2.2]
  have aw : (if gZ τ 106 (jat 0) = gZ τ 106 (jat 1) then false else true) = (A.1 != B.1) := by
    rw [j0, j1, hA.1, hB.1]
    exact bne_if _ _
  generalize ha : A.2.2 * 2 ^ X = a at *
  generalize hb : B.2.2 * 2 ^ Y = b at *
  obtain ⟨r0, hr0⟩ : ∃ r0 : Nat → Bool, r0 = (fun o => if o < X + Y + 66 then false else gZ τ 109 o) := ⟨_, rfl⟩
  have em : f_MO_empty τ (nI (X + Y + 66)) lo = rowst τ (nI (X + Y + 66)) lo false r0 := by rw [hr0]; exact empty_M τ (X + Y + 66) (by omega) lo
  have rz : rowN r0 (X + Y + 66) = 0 := by rw [hr0]; exact row_0 _ _
  have g108 : ∀ (r : Nat → Bool) (i : Nat), gJ (rowst τ (nI (X + Y + 66)) lo false r) 108 i = gJ τ 108 i := fun _ _ => rfl
  have g106 : ∀ (r : Nat → Bool) (i : Nat), gZ (rowst τ (nI (X + Y + 66)) lo false r) 106 i = gZ τ 106 i := fun _ _ => rfl
  have g16 : ∀ (r : Nat → Bool), gI (rowst τ (nI (X + Y + 66)) lo false r) 16 35 = nI w := fun _ => hwd
  have wy : jrem (nI w / 1024) 4 = nI (wayOf w) := rem_M hw 1024 4 (by decide) (by decide) (by decide) (by decide)
  have dn : (if nI (wayOf w) = 1 then true else false) = decide (wayOf w = 1) := by
    have : (nI (wayOf w) = 1) ↔ wayOf w = 1 := nI_eq (b := 1) (by have := wayOf_lt w; omega) (by decide)
    simp only [this]
    by_cases c : wayOf w = 1 <;> simp [c]
  -- both joins
  obtain ⟨first, hfirst⟩ : ∃ f : Bool, f = ((A.1 != B.1) && decide (a < b)) := ⟨_, rfl⟩
  have t3 : (if (A.1 != B.1) = true then if decide (a < b) = true then true else false else false) = first := by
    rw [hfirst]
    cases (A.1 != B.1) <;> cases decide (a < b) <;> rfl
  obtain ⟨r1, r2, hj1, hj, hr2⟩ : ∃ r1 r2 : Nat → Bool, f_MO_join (rowst τ (nI (X + Y + 66)) lo false r0) (gJ τ 108 (jat (bI first))) (f_MO_unitOf τ (bI first) - lo) false = rowst τ (nI (X + Y + 66)) lo false r1 ∧ f_MO_join (rowst τ (nI (X + Y + 66)) lo false r1) (gJ τ 108 (jat (1 - bI first))) (f_MO_unitOf τ (1 - bI first) - lo) (A.1 != B.1) = rowst τ (nI (X + Y + 66)) lo false r2 ∧ rowN r2 (X + Y + 66) = sumN A.1 B.1 a b := by
    cases first with
    | false =>
      have e0 : bI false = (0 : Int32) := rfl
      have e1 : (1 : Int32) - bI false = 1 := by decide
      rw [e1, e0, j0, j1, l3, l4]
      obtain ⟨r1, c1, c2⟩ := rowst_join τ (X + Y + 66) lo false r0 (gJ τ 108 0) X false 0 a (by omega) rz (by omega) (by rw [hA.2.2.2, ha]; simp) (by omega)
      have q : ¬ ((A.1 != B.1) = true ∧ a < b) := fun q => by
        rw [q.1, decide_eq_true q.2] at hfirst
        cases hfirst
      obtain ⟨r2, d1, d2⟩ := rowst_join τ (X + Y + 66) lo false r1 (gJ τ 108 1) Y (A.1 != B.1) a (sumN A.1 B.1 a b) (by omega) c2 (by omega) (by
        rw [hB.2.2.2, hb]
        unfold sumN
        cases hne : (A.1 != B.1)
        · have : A.1 = B.1 := by simpa using hne
          simp [this]
        · have h1 : ¬ A.1 = B.1 := by simpa using hne
          have h2 : b ≤ a := Nat.not_lt.mp (fun z => q ⟨hne, z⟩)
          simp [h1, h2]) (by unfold sumN; split; omega; split <;> omega)
      exact ⟨r1, r2, c1, d1, d2⟩
    | true =>
      have e0 : bI true = (1 : Int32) := rfl
      have e1 : (1 : Int32) - bI true = 0 := by decide
      rw [e1, e0, j0, j1, l3, l4]
      obtain ⟨r1, c1, c2⟩ := rowst_join τ (X + Y + 66) lo false r0 (gJ τ 108 1) Y false 0 b (by omega) rz (by omega) (by rw [hB.2.2.2, hb]; simp) (by omega)
      have q : (A.1 != B.1) = true ∧ a < b := by
        have := hfirst.symm
        simpa using this
      have h1 : ¬ A.1 = B.1 := by simpa using q.1
      have h2 : ¬ b ≤ a := by omega
      obtain ⟨r2, d1, d2⟩ := rowst_join τ (X + Y + 66) lo false r1 (gJ τ 108 0) X (A.1 != B.1) b (sumN A.1 B.1 a b) (by omega) c2 (by omega) (by
        rw [hA.2.2.2, ha, q.1]
        unfold sumN
        simp [h1, h2]
        omega) (by unfold sumN; rw [if_neg h1, if_neg h2]; omega)
      exact ⟨r1, r2, c1, d1, d2⟩
  have hlt : sumN A.1 B.1 a b < 2 ^ (X + Y + 66) := by
    rw [← hr2]
    exact rowN_lt _ _
  have sm : f_MO_sum τ = (if (f_MO_highest (rowst τ (nI (X + Y + 66)) lo false r2)) < 0 then f_MO_answer (rowst τ (nI (X + Y + 66)) lo false r2) (if f_MO_isNothing (rowst τ (nI (X + Y + 66)) lo false r2) 0 = true then if f_MO_isNothing (rowst τ (nI (X + Y + 66)) lo false r2) 1 = true then if (A.1 != B.1) = true then decide (wayOf w = 1) else gZ τ 106 (jat 0) else decide (wayOf w = 1) else decide (wayOf w = 1)) 0 0 else f_MO_make (rowst τ (nI (X + Y + 66)) lo false r2) (gZ τ 106 (jat (bI first)))) := by
    unfold f_MO_sum
    simp only [hlo, l8, aw, ls, t3, em, g108, rowst_unit]
    simp only [hj1, g108, rowst_unit, hj, g16, wy, dn, g106]
  rw [sm]
  have hrow : RowIs (rowst τ (nI (X + Y + 66)) lo false r2) (X + Y + 66) (sumN A.1 B.1 a b) := ⟨by simp [rowst, setRow_I, gI_sI, gI_sZ], by omega, by rw [rowst, setRow_109]; exact hr2⟩
  have n0 : f_MO_isNothing (rowst τ (nI (X + Y + 66)) lo false r2) 0 = decide (A.2.2 = 0) := nothing_M (a := 0) (show gI τ 107 (jat 0) = nI A.2.1 from hA.2.1) (show uN (gJ τ 108 (jat 0)) = A.2.2 from hA.2.2.2) pa
  have n1 : f_MO_isNothing (rowst τ (nI (X + Y + 66)) lo false r2) 1 = decide (B.2.2 = 0) := nothing_M (a := 1) (show gI τ 107 (jat 1) = nI B.2.1 from hB.2.1) (show uN (gJ τ 108 (jat 1)) = B.2.2 from hB.2.2.2) pb
  rcases highest_M hrow with ⟨z, hh⟩ | ⟨z, hh, hlg⟩
  · have c : (-1 : Int32) < 0 := by decide
    rw [hh, if_pos c, n0, n1]
    -- nothing is left
    have sg : (if decide (A.2.2 = 0) = true then if decide (B.2.2 = 0) = true then if (A.1 != B.1) = true then decide (wayOf w = 1) else gZ τ 106 (jat 0) else decide (wayOf w = 1) else decide (wayOf w = 1)) = sumG w A.1 B.1 a b := by
      unfold sumG
      rw [j0, hA.1]
      unfold sumN at z
      by_cases hm : A.1 = B.1
      · rw [if_pos hm] at z ⊢
        have za : A.2.2 = 0 := by
          refine Classical.byContradiction (fun q => ?_)
          have := Nat.mul_pos (Nat.pos_of_ne_zero q) (pow_pos2 X)
          omega
        have zb : B.2.2 = 0 := by
          refine Classical.byContradiction (fun q => ?_)
          have := Nat.mul_pos (Nat.pos_of_ne_zero q) (pow_pos2 Y)
          omega
        have e : (A.1 != B.1) = false := by rw [hm]; cases B.1 <;> rfl
        rw [za, zb, e]
        rfl
      · rw [if_neg hm] at z ⊢
        have e : (A.1 != B.1) = true := by
          cases h1 : A.1 <;> cases h2 : B.1 <;> simp_all
        have eq : a = b := by
          split at z <;> omega
        rw [if_pos eq, e]
        cases decide (A.2.2 = 0) <;> cases decide (B.2.2 = 0) <;> rfl
    rw [sg, z]
    exact Made_zero ht
  · have c : ¬ nI (sumN A.1 B.1 a b).log2 < 0 := nI_pos (by omega)
    rw [hh, if_neg c]
    have sg : gZ τ 106 (jat (bI first)) = sumG w A.1 B.1 a b := by
      unfold sumG
      unfold sumN at z
      by_cases hm : A.1 = B.1
      · have e : (A.1 != B.1) = false := by rw [hm]; cases B.1 <;> rfl
        rw [e, Bool.false_and] at hfirst
        rw [hfirst, if_pos hm]
        exact hA.1
      · have e : (A.1 != B.1) = true := by
          cases h1 : A.1 <;> cases h2 : B.1 <;> simp_all
        rw [e, Bool.true_and] at hfirst
        rw [if_neg hm] at z ⊢
        by_cases lt : a < b
        · have n1 : ¬ a = b := by omega
          have n2 : ¬ b < a := by omega
          rw [hfirst, decide_eq_true lt, if_neg n1, if_neg n2]
          exact hB.1
        · have n1 : ¬ a = b := fun q => by
            rw [q] at z
            simp at z
          have n2 : b < a := by omega
          rw [hfirst, decide_eq_false lt, if_neg n1, if_pos n2]
          exact hA.1
    rw [sg]
    have rA := unitN_rng hA.2.2.1
    have rB := unitN_rng hB.2.2.1
    have sp := low_split A B
    have hk : -37000 ≤ lo.toInt + (sumN A.1 B.1 a b).log2 ∧ lo.toInt + (sumN A.1 B.1 a b).log2 ≤ 37000 := by
      clear ba bb p66 hlt fa fb
      omega
    exact Made_make (by omega) hr2 z hwd hw ⟨by omega, by omega⟩ hk ht
