/-! the reference's row: emptied, joined -/
def setRow (τ : St) (r : Nat → Bool) : St := (τ.1, τ.2.1, fun k o => if k = 109 then r o else τ.2.2 k o)
theorem setRow_I (τ : St) (r : Nat → Bool) (k o : Nat) : gI (setRow τ r) k o = gI τ k o := rfl
theorem setRow_J (τ : St) (r : Nat → Bool) (k o : Nat) : gJ (setRow τ r) k o = gJ τ k o := rfl
theorem setRow_Z (τ : St) (r : Nat → Bool) (k o : Nat) : gZ (setRow τ r) k o = if k = 109 then r o else gZ τ k o := rfl
theorem setRow_109 (τ : St) (r : Nat → Bool) : gZ (setRow τ r) 109 = r := by
  funext o
  rw [setRow_Z, if_pos rfl]
theorem setRow_ne (τ : St) (r : Nat → Bool) (k o : Nat) (h : k ≠ 109) : gZ (setRow τ r) k o = gZ τ k o := by rw [setRow_Z, if_neg h]
theorem setRow_id (τ : St) : setRow τ (gZ τ 109) = τ := by
  apply St_ext <;> intro k x
  · rfl
  · rfl
  · rw [setRow_Z]
    split
    · rename_i h
      rw [h]
    · rfl
theorem setRow_st (τ : St) (r : Nat → Bool) (i : Nat) (v : Bool) : sZ (setRow τ r) 109 i v = setRow τ (fun o => if o = i then v else r o) := by
  apply St_ext <;> intro k x
  · rfl
  · rfl
  · simp only [gZ_sZ, setRow_Z]
    grind
theorem setRow_setRow (τ : St) (r s : Nat → Bool) : setRow (setRow τ r) s = setRow τ s := by
  apply St_ext <;> intro k x
  · rfl
  · rfl
  · simp only [setRow_Z]
    grind
/-- the row of nothing -/
theorem empty_M (τ : St) (n : Nat) (hn : n ≤ 33000) (lo : Int32) : f_MO_empty τ (nI n) lo = setRow (sZ (sI (sI τ 18 35 (nI n)) 19 35 lo) 20 35 false) (fun o => if o < n then false else gZ τ 109 o) := by
  unfold f_MO_empty
  simp only []
  generalize hS : sZ (sI (sI τ 18 35 (nI n)) 19 35 lo) 20 35 false = S
  have h109 : gZ S 109 = gZ τ 109 := by
    rw [← hS]
    rfl
  refine lpn_P (b := b_MO_empty_17 (nI n)) (fun i t => t = (nI i, setRow S (fun o => if o < i then false else gZ τ 109 o))) (fun y => y.2 = setRow S (fun o => if o < n then false else gZ τ 109 o)) n ?_ ?_ ?_ ?_
  · intro i t hi et
    subst et
    refine ⟨_, ?_, rfl⟩
    unfold b_MO_empty_17
    have c : ¬ nI n ≤ nI i := nI_ge hi (by omega)
    simp only [c, if_false, nI_1, jat_nI (show i < 2 ^ 31 by omega), setRow_st]
    congr 3
    funext o
    by_cases c1 : o = i
    · have : o < i + 1 := by omega
      simp [c1]
    · by_cases c2 : o < i
      · have : o < i + 1 := by omega
        simp [c1, c2, this]
      · have : ¬ o < i + 1 := by omega
        simp [c1, c2, this]
  · intro t et
    subst et
    refine ⟨(nI n, setRow S (fun o => if o < n then false else gZ τ 109 o)), ?_, rfl⟩
    unfold b_MO_empty_17
    have c : nI n ≤ nI n := nI_le (Nat.le_refl _) (by omega)
    simp only [c, if_true]
  · unfold upf
    have e1 : (nI n).toInt = n := nI_toInt (by omega)
    have e2 : (0 : Int32).toInt = 0 := rfl
    rw [e1, e2]
    omega
  · have : (fun o => if o < 0 then false else gZ τ 109 o) = gZ S 109 := by
      rw [h109]
      funext o
      simp
    rw [this, setRow_id]
    rfl
theorem row_0 (r : Nat → Bool) (n : Nat) : rowN (fun o => if o < n then false else r o) n = 0 := by
  have : rowN (fun o => if o < n then false else r o) n = rowN (fun _ => false) n := rowN_congr n (fun i hi => by simp [hi])
  rw [this]
  clear this
  induction n with
  | zero => rfl
  | succ n ih =>
    show rowN (fun _ => false) n + (false).toNat * 2 ^ n = 0
    rw [ih]
    simp
/-- one place of an addition, and of a taking away -/
theorem add_bit (a b c : Bool) : (((a != b) != c).toNat + 2 * ((a && b) || (a && c) || (b && c)).toNat = a.toNat + b.toNat + c.toNat) ∧ (((a != b) != c).toNat + b.toNat + c.toNat = a.toNat + 2 * ((!a && (b || c)) || (b && c)).toNat) := by
  cases a <;> cases b <;> cases c <;> decide
theorem join_body (a1 : Int64) (p i : Nat) (away c : Bool) (τ : St) (r : Nat → Bool) (n : Nat) (hn : n ≤ 33000) (h18 : gI τ 18 35 = nI n) (hp : p ≤ i) (hi : i < n) :
    b_MO_join_6 a1 (nI p) away (nI i, c, setRow τ r) = (true, (nI (i + 1), (if away then (!r i && ((uN a1).testBit (i - p) || c)) || ((uN a1).testBit (i - p) && c) else (r i && (uN a1).testBit (i - p)) || (r i && c) || ((uN a1).testBit (i - p) && c)), setRow τ (fun o => if o = i then ((r i != (uN a1).testBit (i - p)) != c) else r o))) := by
  have c0 : ¬ gI (setRow τ r) 18 35 ≤ nI i := by rw [setRow_I, h18]; exact nI_ge hi (by omega)
  have e1 : nI i - nI p = nI (i - p) := pk_sub hp
  have g : gZ (setRow τ r) 109 i = r i := by rw [setRow_Z, if_pos rfl]
  have t3 : (if 64 ≤ nI (i - p) then false else if jlshr a1 (nI (i - p)) &&& 1 = 1 then true else false) = (uN a1).testBit (i - p) := by
    by_cases c1 : 64 ≤ i - p
    · have c2 : (64 : Int32) ≤ nI (i - p) := nI_le (a := 64) c1 (by omega)
      rw [if_pos c2]
      symm
      apply Nat.testBit_lt_two_pow
      exact Nat.lt_of_lt_of_le (uN_lt2 a1) (Nat.pow_le_pow_right (by decide) c1)
    · have c2 : ¬ (64 : Int32) ≤ nI (i - p) := nI_ge (b := 64) (by omega) (by decide)
      rw [if_neg c2]
      simp only [bit1 a1 (i - p) rfl (by omega)]
      cases (uN a1).testBit (i - p) <;> rfl
  unfold b_MO_join_6 f_MO_join_b102 f_MO_join_b130 f_MO_join_b140
  simp only [c0, if_false, jat_nI (show i < 2 ^ 31 by omega), g, e1, t3, nI_1, setRow_st]
  generalize (uN a1).testBit (i - p) = b
  generalize hr : r i = a
  cases a <;> cases b <;> cases c <;> cases away <;> rfl
theorem join_M (τ : St) (a1 : Int64) (p n : Nat) (away : Bool) (hn : n ≤ 33000) (h18 : gI τ 18 35 = nI n) (hp : p + 64 ≤ n) (N' : Nat) (hN : if away then N' + uN a1 * 2 ^ p = rowN (gZ τ 109) n else N' = rowN (gZ τ 109) n + uN a1 * 2 ^ p) (hlt : N' < 2 ^ n) :
    ∃ r : Nat → Bool, f_MO_join τ a1 (nI p) away = setRow τ r ∧ rowN r n = N' := by
  have ha := uN_lt2 a1
  unfold f_MO_join
  simp only []
  have key : ∃ (r : Nat → Bool) (c : Bool), (lpn (b_MO_join_6 a1 (nI p) away) (upf (gI τ 18 35) (nI p)) (nI p, false, τ)).2.2 = setRow τ r ∧ (if away then rowN r n + uN a1 % 2 ^ (n - p) * 2 ^ p = rowN (gZ τ 109) n + c.toNat * 2 ^ n else rowN r n + c.toNat * 2 ^ n = rowN (gZ τ 109) n + uN a1 % 2 ^ (n - p) * 2 ^ p) := by
    refine lpn_P (b := b_MO_join_6 a1 (nI p) away) (fun i t => ∃ (r : Nat → Bool) (c : Bool), t = (nI (p + i), c, setRow τ r) ∧ (∀ j, p + i ≤ j → r j = gZ τ 109 j) ∧ (if away then rowN r (p + i) + uN a1 % 2 ^ i * 2 ^ p = rowN (gZ τ 109) (p + i) + c.toNat * 2 ^ (p + i) else rowN r (p + i) + c.toNat * 2 ^ (p + i) = rowN (gZ τ 109) (p + i) + uN a1 % 2 ^ i * 2 ^ p)) (fun y => ∃ (r : Nat → Bool) (c : Bool), y.2.2 = setRow τ r ∧ (if away then rowN r n + uN a1 % 2 ^ (n - p) * 2 ^ p = rowN (gZ τ 109) n + c.toNat * 2 ^ n else rowN r n + c.toNat * 2 ^ n = rowN (gZ τ 109) n + uN a1 % 2 ^ (n - p) * 2 ^ p)) (n - p) ?_ ?_ ?_ ?_
    · intro i t hi ⟨r, c, et, e1, e2⟩
      subst et
      have st := join_body a1 p (p + i) away c τ r n hn h18 (by omega) (by omega)
      have ei : p + i - p = i := by omega
      rw [ei] at st
      refine ⟨_, st, _, _, rfl, ?_, ?_⟩
      · intro j hj
        have : ¬ j = p + i := by omega
        simp only [this, if_false]
        exact e1 j (by omega)
      · have a0 := e1 (p + i) (Nat.le_refl _)
        -- the new row up to the place
        have q1 : rowN (fun o => if o = p + i then ((r (p + i) != (uN a1).testBit i) != c) else r o) (p + i + 1) = rowN r (p + i) + ((r (p + i) != (uN a1).testBit i) != c).toNat * 2 ^ (p + i) := by
          show rowN (fun o => if o = p + i then ((r (p + i) != (uN a1).testBit i) != c) else r o) (p + i) + ((if p + i = p + i then ((r (p + i) != (uN a1).testBit i) != c) else r (p + i))).toNat * 2 ^ (p + i) = _
          rw [if_pos rfl]
          congr 1
          exact rowN_congr _ (fun j hj => by have : ¬ j = p + i := by omega
                                             simp [this])
        have q2 : rowN (gZ τ 109) (p + i + 1) = rowN (gZ τ 109) (p + i) + (gZ τ 109 (p + i)).toNat * 2 ^ (p + i) := rfl
        have q3 := mod_succ (uN a1) i
        have q4 : (2 : Nat) ^ (p + i) = 2 ^ p * 2 ^ i := Nat.pow_add _ _ _
        have q5 : (2 : Nat) ^ (p + i + 1) = 2 ^ (p + i) * 2 := Nat.pow_succ _ _
        have ep : p + (i + 1) = p + i + 1 := by omega
        obtain ⟨k1, k2⟩ := add_bit (r (p + i)) ((uN a1).testBit i) c
        rw [ep, q1, q2, q3, q5, ← a0]
        have q6 : (uN a1 % 2 ^ i + ((uN a1).testBit i).toNat * 2 ^ i) * 2 ^ p = uN a1 % 2 ^ i * 2 ^ p + ((uN a1).testBit i).toNat * 2 ^ (p + i) := by
          rw [q4]
          generalize uN a1 % 2 ^ i = A
          generalize ((uN a1).testBit i).toNat = B
          generalize (2 : Nat) ^ i = C
          generalize (2 : Nat) ^ p = D
          grind
        rw [q6]
        generalize uN a1 % 2 ^ i * 2 ^ p = A at *
        generalize (2 : Nat) ^ (p + i) = P at *
        generalize rowN r (p + i) = X at *
        generalize rowN (gZ τ 109) (p + i) = Y at *
        generalize r (p + i) = a at *
        generalize (uN a1).testBit i = b at *
        cases away with
        | true =>
          simp only [if_true] at e2 ⊢
          have m := congrArg (fun z => z * P) k2
          simp only [Nat.add_mul, Nat.mul_assoc] at m
          cases a <;> cases b <;> cases c <;> simp_all <;> omega
        | false =>
          simp only [Bool.false_eq_true, if_false] at e2 ⊢
          cases a <;> cases b <;> cases c <;> simp_all <;> omega
    · intro t ⟨r, c, et, e1, e2⟩
      subst et
      have ep : p + (n - p) = n := by omega
      rw [ep] at e2 ⊢
      refine ⟨(nI n, c, setRow τ r), ?_, r, c, rfl, e2⟩
      unfold b_MO_join_6
      have c0 : gI (setRow τ r) 18 35 ≤ nI n := by rw [setRow_I, h18]; exact nI_le (Nat.le_refl _) (by omega)
      simp only [c0, if_true]
    · rw [h18]
      unfold upf
      have e1 : (nI n).toInt = n := nI_toInt (by omega)
      have e2 : (nI p).toInt = p := nI_toInt (by omega)
      rw [e1, e2]
      omega
    · refine ⟨gZ τ 109, false, by rw [setRow_id]; rfl, fun _ _ => rfl, ?_⟩
      have : uN a1 % 2 ^ 0 = 0 := Nat.mod_one _
      rw [this]
      cases away <;> simp
  obtain ⟨r, c, k1, k2⟩ := key
  have am : uN a1 % 2 ^ (n - p) = uN a1 := Nat.mod_eq_of_lt (Nat.lt_of_lt_of_le ha (Nat.pow_le_pow_right (by decide) (by omega)))
  rw [am] at k2
  have hr := rowN_lt r n
  refine ⟨r, k1, ?_⟩
  generalize uN a1 * 2 ^ p = A at *
  generalize (2 : Nat) ^ n = P at *
  generalize rowN r n = X at *
  generalize rowN (gZ τ 109) n = Y at *
  cases away <;> cases c <;> simp at hN k2 <;> omega
