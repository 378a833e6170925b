/-! rows of bytes -/
def bN (m : Nat → Nat) : Nat → Nat → Nat
  | _, 0 => 0
  | f, n + 1 => m f + 256 * bN m (f + 1) n
theorem bN_lt {m : Nat → Nat} (hm : ∀ k, m k < 256) : ∀ n f, bN m f n < 256 ^ n := by
  intro n
  induction n with
  | zero => intro f; simp [bN]
  | succ n ih =>
    intro f
    have h1 := hm f
    have h2 := ih (f + 1)
    unfold bN
    rw [Nat.pow_succ]
    omega
theorem bN_byte {m : Nat → Nat} (hm : ∀ k, m k < 256) : ∀ n f k, k < n → bN m f n / 256 ^ k % 256 = m (f + k) := by
  intro n
  induction n with
  | zero => intro f k h; omega
  | succ n ih =>
    intro f k h
    have h1 := hm f
    unfold bN
    rcases Nat.eq_zero_or_pos k with rfl | hp
    · rw [Nat.pow_zero, Nat.div_one]
      show _ = m f
      omega
    · obtain ⟨j, rfl⟩ : ∃ j, k = j + 1 := ⟨k - 1, by omega⟩
      have e : (m f + 256 * bN m (f + 1) n) / 256 ^ (j + 1) = bN m (f + 1) n / 256 ^ j := by
        rw [Nat.pow_succ, Nat.mul_comm (256 ^ j), ← Nat.div_div_eq_div_mul]
        congr 1
        omega
      rw [e, ih (f + 1) j (by omega)]
      congr 1
      omega
theorem bN_congr {m m' : Nat → Nat} : ∀ n f, (∀ k, k < n → m (f + k) = m' (f + k)) → bN m f n = bN m' f n := by
  intro n
  induction n with
  | zero => intro f _; rfl
  | succ n ih =>
    intro f h
    unfold bN
    have h0 := h 0 (by omega)
    rw [Nat.add_zero] at h0
    rw [h0, ih (f + 1) (fun k hk => by
      have := h (k + 1) (by omega)
      rw [show f + (k + 1) = f + 1 + k by omega] at this
      exact this)]
theorem p256 (k : Nat) : 256 ^ k = 2 ^ (8 * k) := by
  rw [show (256 : Nat) = 2 ^ 8 by decide, ← Nat.pow_mul]
theorem iN_of_l (v : Int64) : (Int64.toInt32 v).toBitVec.toNat = uN v % 4294967296 := by
  show (v.toBitVec.signExtend 32).toNat = _
  rw [BitVec.signExtend_eq_setWidth_of_le _ (by decide), BitVec.toNat_setWidth]
  rfl
theorem uN_nI {k : Nat} (h : k < 2147483648) : uN (Int32.toInt64 (nI k)) = k := by
  rw [nI_l (by omega), uN_lN (by omega)]
theorem m255 : (255 : Int32).toBitVec.toNat = 2 ^ 8 - 1 := by decide
theorem jb_and (x : Int32) : jb x &&& 255 = x &&& 255 := by
  apply Int32.toBitVec_inj.mp
  apply BitVec.eq_of_getLsbD_eq
  intro i hi
  have e : (jb x).toBitVec = (x.toBitVec.signExtend 8).signExtend 32 := rfl
  have m : (255 : Int32).toBitVec.getLsbD i = decide (i < 8) := by
    have : (255 : Int32).toBitVec = BitVec.ofNat 32 (2 ^ 8 - 1) := by decide
    rw [this, BitVec.getLsbD_ofNat, Nat.testBit_two_pow_sub_one]
    simp [hi]
  rw [Int32.toBitVec_and, Int32.toBitVec_and, BitVec.getLsbD_and, BitVec.getLsbD_and, m, e, BitVec.getLsbD_signExtend]
  by_cases c : i < 8
  · have c2 : i < 32 := by omega
    rw [if_pos c, BitVec.getLsbD_signExtend, if_pos c2]
    simp [c, c2]
  · simp [c]
theorem jbb (y : Int64) : jb (jb (Int64.toInt32 y)) &&& 255 = nI (uN y % 256) := by
  rw [jb_and, jb_and, pk_and _ 8 m255, iN_of_l]
  congr 1
  omega
/-- the class's bytes -/
def MB (σ : St) (m : Nat → Nat) : Prop := ∀ k, k < 94 → gI σ 100 k &&& 255 = nI (m k)
def fr100 (σ τ : St) : Prop := (∀ k x, k ≠ 100 → gI τ k x = gI σ k x) ∧ (∀ k x, gJ τ k x = gJ σ k x) ∧ (∀ k x, gZ τ k x = gZ σ k x)
theorem fr100_refl (σ : St) : fr100 σ σ := ⟨fun _ _ _ => rfl, fun _ _ => rfl, fun _ _ => rfl⟩
theorem fr100_trans {σ τ ρ : St} (h : fr100 σ τ) (g : fr100 τ ρ) : fr100 σ ρ := ⟨fun k x a => (g.1 k x a).trans (h.1 k x a), fun k x => (g.2.1 k x).trans (h.2.1 k x), fun k x => (g.2.2 k x).trans (h.2.2 k x)⟩
def putm (m : Nat → Nat) (f n V : Nat) : Nat → Nat := fun k => if f ≤ k ∧ k < f + n then V / 256 ^ (k - f) % 256 else m k
theorem putm_lt {m : Nat → Nat} (hm : ∀ k, m k < 256) (f n V : Nat) : ∀ k, putm m f n V k < 256 := by
  intro k
  unfold putm
  split
  · omega
  · exact hm k
theorem bits_C {σ : St} {m : Nat → Nat} (h : MB σ m) (hm : ∀ k, m k < 256) (f n : Nat) (hn : 1 ≤ n) (hn8 : n ≤ 8) (hf : f + n ≤ 94) : uN (f_Mem_bits σ (nI f) (nI n)) = bN m f n := by
  have v1 : nI f + nI n - 1 = nI (f + n - 1) := by
    rw [nI_add]
    exact pk_sub (b := 1) (by omega)
  have e1 : (nI (f + n - 1)).toInt = ((f + n - 1 : Nat) : Int) := nI_toInt (by omega)
  have ef : (nI f).toInt = f := nI_toInt (by omega)
  have em : (-1 : Int32).toInt = -1 := by decide
  unfold f_Mem_bits
  simp only [v1]
  refine lpn_P (b := b_Mem_bits_9 σ (nI f)) (fun i t => t.1.toInt = (f : Int) + n - 1 - i ∧ uN t.2 = bN m (f + n - i) i) (fun y => uN y.2 = bN m f n) n ?_ ?_ ?_ ?_
  · intro i t hi ⟨t1, t2⟩
    obtain ⟨a, b⟩ := t
    simp only at t1 t2
    obtain ⟨q, hq⟩ : ∃ q : Nat, q = f + n - 1 - i := ⟨_, rfl⟩
    have ea : a = nI q := by
      apply Int32.toInt_inj.mp
      rw [t1, nI_toInt (by omega)]
      omega
    have c1 : ¬ nI q < nI f := nI_nlt (by omega) (by omega)
    have c2 : ¬ nI q < 0 := nI_pos (by omega)
    have c3 : ¬ (94 : Int32) ≤ nI q := nI_ge (b := 94) (by omega) (by decide)
    refine ⟨(nI q + (-1), jlshl b 8 ||| Int32.toInt64 (gI σ 100 q &&& 255)), ?_, ?_, ?_⟩
    · unfold b_Mem_bits_9
      have jq : jat (nI q) = q := nI_clamp (by omega)
      simp only [ea, c1, c2, c3, if_false, jq]
    · show (nI q + (-1)).toInt = _
      rw [i32_addT (by rw [nI_toInt (by omega), em]; omega) (by rw [nI_toInt (by omega), em]; omega), nI_toInt (by omega), em]
      omega
    · show uN (jlshl b 8 ||| Int32.toInt64 (gI σ 100 q &&& 255)) = _
      have mq := hm q
      have bl := bN_lt hm i (f + n - i)
      have p7 : 256 ^ i ≤ 256 ^ 7 := Nat.pow_le_pow_right (by decide) (by omega)
      have e2 : bN m (f + n - (i + 1)) (i + 1) = m q + 256 * bN m (f + n - i) i := by
        have x1 : f + n - (i + 1) = q := by omega
        have x2 : f + n - i = q + 1 := by omega
        rw [x1, x2]
        rfl
      rw [h q (by omega), uN_orr, uN_nI (by omega), uN_jlshl b (y := 8) 8 rfl (by decide), t2, e2]
      have e3 : bN m (f + n - i) i * 2 ^ 8 % 18446744073709551616 = bN m (f + n - i) i * 2 ^ 8 := Nat.mod_eq_of_lt (by omega)
      rw [e3, or_add (by omega)]
      omega
  · intro t ⟨t1, t2⟩
    obtain ⟨a, b⟩ := t
    simp only at t1 t2
    have c1 : a < nI f := Int32.lt_iff_toInt_lt.mpr (by rw [t1, ef]; omega)
    refine ⟨(a, b), ?_, ?_⟩
    · unfold b_Mem_bits_9
      simp only [c1, if_true]
    · show uN b = _
      rw [t2, Nat.add_sub_cancel]
  · unfold dbf
    rw [e1, ef]
    omega
  · refine ⟨?_, rfl⟩
    show (nI (f + n - 1)).toInt = _
    rw [e1]
    omega
theorem put_C {σ : St} {m : Nat → Nat} (h : MB σ m) (f n : Nat) (v : Int64) (hn8 : n ≤ 8) (hf : f + n ≤ 94) : MB (f_Mem_put σ (nI f) (nI n) v) (putm m f n (uN v)) ∧ fr100 σ (f_Mem_put σ (nI f) (nI n) v) := by
  unfold f_Mem_put
  refine lpn_P (b := b_Mem_put_3 (nI f) (nI n) v) (fun i t => t.1 = nI i ∧ MB t.2 (putm m f i (uN v)) ∧ fr100 σ t.2) (fun y => MB y.2 (putm m f n (uN v)) ∧ fr100 σ y.2) n ?_ ?_ ?_ ?_
  · intro i t hi ⟨t1, t2, t3⟩
    obtain ⟨a, s⟩ := t
    simp only at t1 t2 t3
    subst t1
    have c1 : ¬ nI n ≤ nI i := nI_ge (by omega) (by omega)
    have e0 : nI f + nI i = nI (f + i) := nI_add f i
    have c2 : ¬ nI (f + i) < 0 := nI_pos (by omega)
    have c3 : ¬ (94 : Int32) ≤ nI (f + i) := nI_ge (b := 94) (by omega) (by decide)
    have jq : jat (nI (f + i)) = f + i := nI_clamp (by omega)
    have e8 : (8 : Int32) * nI i = nI (8 * i) := pk_mul 8 i
    refine ⟨(nI (i + 1), sI s 100 (f + i) (jb (jb (Int64.toInt32 (jlushr v (nI (8 * i))))))), ?_, rfl, ?_, ?_⟩
    · unfold b_Mem_put_3
      simp only [c1, if_false, e0, c2, c3, jq, e8, nI_1]
    · intro k hk
      rw [gI_sI, if_pos rfl]
      by_cases c : k = f + i
      · subst c
        rw [if_pos rfl, jbb, uN_jlushr v (8 * i) rfl (by omega)]
        unfold putm
        rw [if_pos ⟨by omega, by omega⟩, Nat.add_sub_cancel_left, p256]
      · rw [if_neg c, t2 k hk]
        unfold putm
        by_cases c2 : f ≤ k ∧ k < f + i
        · rw [if_pos c2, if_pos ⟨by omega, by omega⟩]
        · rw [if_neg c2, if_neg (by omega)]
    · refine fr100_trans t3 ⟨fun k x hk => ?_, fun _ _ => rfl, fun _ _ => rfl⟩
      rw [gI_sI, if_neg hk]
  · intro t ⟨t1, t2, t3⟩
    obtain ⟨a, s⟩ := t
    simp only at t1 t2 t3
    subst t1
    have c1 : nI n ≤ nI n := nI_le (by omega) (by omega)
    refine ⟨(nI n, s), ?_, t2, t3⟩
    unfold b_Mem_put_3
    simp only [c1, if_true]
  · unfold upf
    rw [nI_toInt (by omega)]
    show n < ((n : Int) - 0).toNat + 1
    omega
  · refine ⟨rfl, ?_, fr100_refl σ⟩
    have : putm m f 0 (uN v) = m := by
      funext k
      unfold putm
      rw [if_neg (by omega)]
    rw [this]
    exact h
/-! the reference's bits -/
def by8 (b : Nat → Bool) : Nat := (b 0).toNat + 2 * (b 1).toNat + 4 * (b 2).toNat + 8 * (b 3).toNat + 16 * (b 4).toNat + 32 * (b 5).toNat + 64 * (b 6).toNat + 128 * (b 7).toNat
theorem tn1 (b : Bool) : b.toNat ≤ 1 := by cases b <;> decide
theorem by8_lt (b : Nat → Bool) : by8 b < 256 := by
  have h0 := tn1 (b 0)
  have h1 := tn1 (b 1)
  have h2 := tn1 (b 2)
  have h3 := tn1 (b 3)
  have h4 := tn1 (b 4)
  have h5 := tn1 (b 5)
  have h6 := tn1 (b 6)
  have h7 := tn1 (b 7)
  unfold by8
  omega
theorem by8_bit (b : Nat → Bool) {j : Nat} (hj : j < 8) : by8 b / 2 ^ j % 2 = (b j).toNat := by
  have h0 := tn1 (b 0)
  have h1 := tn1 (b 1)
  have h2 := tn1 (b 2)
  have h3 := tn1 (b 3)
  have h4 := tn1 (b 4)
  have h5 := tn1 (b 5)
  have h6 := tn1 (b 6)
  have h7 := tn1 (b 7)
  unfold by8
  rcases (show j = 0 ∨ j = 1 ∨ j = 2 ∨ j = 3 ∨ j = 4 ∨ j = 5 ∨ j = 6 ∨ j = 7 by omega) with rfl | rfl | rfl | rfl | rfl | rfl | rfl | rfl <;> omega
theorem by8_set (b : Nat → Bool) (v : Bool) {j : Nat} (hj : j < 8) : by8 (fun x => if x = j then v else b x) + (b j).toNat * 2 ^ j = by8 b + v.toNat * 2 ^ j := by
  unfold by8
  rcases (show j = 0 ∨ j = 1 ∨ j = 2 ∨ j = 3 ∨ j = 4 ∨ j = 5 ∨ j = 6 ∨ j = 7 by omega) with rfl | rfl | rfl | rfl | rfl | rfl | rfl | rfl <;> simp <;> omega
theorem by8_congr {b c : Nat → Bool} (h : ∀ j, j < 8 → b j = c j) : by8 b = by8 c := by
  unfold by8
  rw [h 0 (by decide), h 1 (by decide), h 2 (by decide), h 3 (by decide), h 4 (by decide), h 5 (by decide), h 6 (by decide), h 7 (by decide)]
theorem tbN (N i : Nat) : (N.testBit i).toNat = N / 2 ^ i % 2 := by
  rw [ntb]
  rcases Nat.mod_two_eq_zero_or_one (N / 2 ^ i) with z | z <;> rw [z] <;> rfl
theorem by8_self (x : Nat) (h : x < 256) : by8 (fun j => x.testBit j) = x := by
  unfold by8
  simp only [tbN]
  omega
theorem by8_N (N k : Nat) : by8 (fun j => N.testBit (8 * k + j)) = N / 256 ^ k % 256 := by
  have l : N / 256 ^ k % 256 < 256 := Nat.mod_lt _ (by decide)
  have := by8_self (N / 256 ^ k % 256) l
  rw [← this]
  apply by8_congr
  intro j hj
  rw [show (256 : Nat) ^ k = 2 ^ (8 * k) from p256 k, show N / 2 ^ (8 * k) % 256 = N / 2 ^ (8 * k) % 2 ^ 8 from rfl, Nat.testBit_mod_two_pow, Nat.testBit_div_two_pow]
  simp [hj, Nat.add_comm]
def BA (τ : St) (β : Nat → Bool) : Prop := ∀ k, k < 10 → gI τ 114 k = nI (by8 (fun j => β (8 * k + j)))
theorem bit_i {i : Nat} (hi : i < 80) : nI i / 8 = nI (i / 8) ∧ jrem (nI i) 8 = nI (i % 8) := ⟨pk_div (d := 8) (by omega) (by decide) (by decide), pk_rem (d := 8) (by omega) (by decide) (by decide)⟩
theorem sh31 : ∀ k : Nat, k < 32 → ((nI k &&& 31).toBitVec.smod 32).toNat = k := by decide
theorem bit_B {τ : St} {β : Nat → Bool} (h : BA τ β) {i : Nat} (hi : i < 80) : f_MC_bit τ (nI i) = nI (β i).toNat := by
  obtain ⟨e1, e2⟩ := bit_i hi
  have jq : jat (nI (i / 8)) = i / 8 := nI_clamp (by omega)
  have m1 : (1 : Int32).toBitVec.toNat = 2 ^ 1 - 1 := by decide
  have bl := by8_lt (fun j => β (8 * (i / 8) + j))
  unfold f_MC_bit
  rw [e1, e2, jq, h (i / 8) (by omega), shrN (by omega) (i % 8) (sh31 (i % 8) (by omega)), pk_andN (by
    have := Nat.div_le_self (by8 (fun j => β (8 * (i / 8) + j))) (2 ^ (i % 8))
    omega) 1 m1, by8_bit _ (by omega)]
  congr 3
  omega
theorem shl1 : ∀ k, k < 8 → jshl 1 (nI k) = nI (2 ^ k) := by decide
theorem neg_nI {n : Nat} (h : n < 2 ^ 30) : (-nI n).toInt = -(n : Int) := by
  rw [Int32.toInt_neg, nI_toInt (by omega), Int.bmod_eq_of_le (by omega) (by omega)]
def fr114 (σ τ : St) : Prop := (∀ k x, k ≠ 114 → gI τ k x = gI σ k x) ∧ (∀ k x, gJ τ k x = gJ σ k x) ∧ (∀ k x, gZ τ k x = gZ σ k x)
theorem fr114_refl (σ : St) : fr114 σ σ := ⟨fun _ _ _ => rfl, fun _ _ => rfl, fun _ _ => rfl⟩
theorem fr114_trans {σ τ ρ : St} (h : fr114 σ τ) (g : fr114 τ ρ) : fr114 σ ρ := ⟨fun k x a => (g.1 k x a).trans (h.1 k x a), fun k x => (g.2.1 k x).trans (h.2.1 k x), fun k x => (g.2.2 k x).trans (h.2.2 k x)⟩
theorem fr114_I (σ : St) (x : Nat) (v : Int32) : fr114 σ (sI σ 114 x v) := ⟨fun k' x' a => by rw [gI_sI, if_neg a], fun _ _ => rfl, fun _ _ => rfl⟩
theorem setBit_B {τ : St} {β : Nat → Bool} (h : BA τ β) {i : Nat} (hi : i < 80) (v : Bool) : BA (f_MC_setBit τ (nI i) v) (fun x => if x = i then v else β x) ∧ fr114 τ (f_MC_setBit τ (nI i) v) := by
  obtain ⟨e1, e2⟩ := bit_i hi
  have jq : jat (nI (i / 8)) = i / 8 := nI_clamp (by omega)
  have b1 : (nI (β i).toNat = 1) ↔ β i = true := by cases β i <;> decide
  have t1 : (if nI (β i).toNat = 1 then true else false) = β i := by
    simp only [b1]
    cases β i <;> rfl
  unfold f_MC_setBit
  simp only [bit_B h hi, t1, e1, e2, jq]
  by_cases c : β i = v
  · rw [if_pos c]
    refine ⟨?_, fr114_refl _⟩
    have : (fun x => if x = i then v else β x) = β := by
      funext x
      by_cases q : x = i
      · rw [if_pos q, q, c]
      · rw [if_neg q]
    rw [this]
    exact h
  · rw [if_neg c]
    refine ⟨fun k hk => ?_, fr114_I _ _ _⟩
    rw [gI_sI, if_pos rfl]
    by_cases q : k = i / 8
    · subst q
      rw [if_pos rfl, h (i / 8) hk]
      have st := by8_set (fun j => β (8 * (i / 8) + j)) v (j := i % 8) (by omega)
      have ei : 8 * (i / 8) + i % 8 = i := by omega
      have e3 : by8 (fun j => if 8 * (i / 8) + j = i then v else β (8 * (i / 8) + j)) = by8 (fun x => if x = i % 8 then v else β (8 * (i / 8) + x)) := by
        apply by8_congr
        intro j hj
        by_cases z : j = i % 8
        · rw [if_pos z, if_pos (by omega)]
        · rw [if_neg z, if_neg (by omega)]
      rw [e3]
      simp only [ei] at st
      have l1 := by8_lt (fun j => β (8 * (i / 8) + j))
      have l2 := by8_lt (fun x => if x = i % 8 then v else β (8 * (i / 8) + x))
      have p8 : 2 ^ (i % 8) ≤ 2 ^ 7 := Nat.pow_le_pow_right (by decide) (by omega)
      generalize by8 (fun x => if x = i % 8 then v else β (8 * (i / 8) + x)) = X at *
      generalize by8 (fun j => β (8 * (i / 8) + j)) = Y at *
      rw [shl1 (i % 8) (by omega)]
      generalize 2 ^ (i % 8) = Z at *
      apply Int32.toInt_inj.mp
      rw [nI_toInt (n := X) (by omega)]
      cases v with
      | true =>
        have bf : β i = false := by
          cases w : β i
          · rfl
          · exact absurd w c
        rw [bf] at st
        simp only [if_true, Bool.toNat_true, Bool.toNat_false] at st ⊢
        rw [nI_add, nI_toInt (by omega)]
        omega
      | false =>
        have bt : β i = true := by
          cases w : β i
          · exact absurd w c
          · rfl
        rw [bt] at st
        simp only [Bool.false_eq_true, if_false, Bool.toNat_true, Bool.toNat_false] at st ⊢
        rw [i32_addT (by rw [nI_toInt (by omega), neg_nI (by omega)]; omega) (by rw [nI_toInt (by omega), neg_nI (by omega)]; omega), nI_toInt (by omega), neg_nI (by omega)]
        omega
    · rw [if_neg q, h k hk]
      congr 1
      apply by8_congr
      intro j hj
      show β (8 * k + j) = if 8 * k + j = i then v else β (8 * k + j)
      rw [if_neg (by omega)]
theorem setBits_B {τ : St} {β : Nat → Bool} (h : BA τ β) (f n : Nat) (v : Int64) (hn : n ≤ 64) (hf : f + n ≤ 80) : BA (f_MC_setBits τ (nI f) (nI n) v) (fun x => if f ≤ x ∧ x < f + n then (uN v).testBit (x - f) else β x) ∧ fr114 τ (f_MC_setBits τ (nI f) (nI n) v) := by
  unfold f_MC_setBits
  refine lpn_P (b := b_MC_setBits_3 (nI f) (nI n) v) (fun i t => t.1 = nI i ∧ BA t.2 (fun x => if f ≤ x ∧ x < f + i then (uN v).testBit (x - f) else β x) ∧ fr114 τ t.2) (fun y => BA y.2 (fun x => if f ≤ x ∧ x < f + n then (uN v).testBit (x - f) else β x) ∧ fr114 τ y.2) n ?_ ?_ ?_ ?_
  · intro i t hi ⟨t1, t2, t3⟩
    obtain ⟨a, s⟩ := t
    simp only at t1 t2 t3
    subst t1
    have c1 : ¬ nI n ≤ nI i := nI_ge (by omega) (by omega)
    have e0 : nI f + nI i = nI (f + i) := nI_add f i
    have tb : (if jlshr v (nI i) &&& 1 = 1 then true else false) = (uN v).testBit i := by
      simp only [bit1 v i rfl (by omega)]
      cases (uN v).testBit i <;> rfl
    obtain ⟨s1, s2⟩ := setBit_B t2 (i := f + i) (by omega) ((uN v).testBit i)
    refine ⟨(nI (i + 1), f_MC_setBit s (nI (f + i)) ((uN v).testBit i)), ?_, rfl, ?_, fr114_trans t3 s2⟩
    · unfold b_MC_setBits_3
      simp only [c1, if_false, e0, tb, nI_1]
    · have e : (fun x => if x = f + i then (uN v).testBit i else if f ≤ x ∧ x < f + i then (uN v).testBit (x - f) else β x) = (fun x => if f ≤ x ∧ x < f + (i + 1) then (uN v).testBit (x - f) else β x) := by
        funext x
        by_cases q : x = f + i
        · subst q
          rw [if_pos rfl, if_pos ⟨by omega, by omega⟩, Nat.add_sub_cancel_left]
        · rw [if_neg q]
          by_cases z : f ≤ x ∧ x < f + i
          · rw [if_pos z, if_pos ⟨by omega, by omega⟩]
          · rw [if_neg z, if_neg (by omega)]
      have s1' : BA (f_MC_setBit s (nI (f + i)) ((uN v).testBit i)) (fun x => if x = f + i then (uN v).testBit i else if f ≤ x ∧ x < f + i then (uN v).testBit (x - f) else β x) := s1
      rw [e] at s1'
      exact s1'
  · intro t ⟨t1, t2, t3⟩
    obtain ⟨a, s⟩ := t
    simp only at t1 t2 t3
    subst t1
    have c1 : nI n ≤ nI n := nI_le (by omega) (by omega)
    refine ⟨(nI n, s), ?_, t2, t3⟩
    unfold b_MC_setBits_3
    simp only [c1, if_true]
  · unfold upf
    rw [nI_toInt (by omega)]
    show n < ((n : Int) - 0).toNat + 1
    omega
  · refine ⟨rfl, ?_, fr114_refl τ⟩
    have : (fun x => if f ≤ x ∧ x < f + 0 then (uN v).testBit (x - f) else β x) = β := by
      funext x
      rw [if_neg (by omega)]
    show BA τ _
    rw [this]
    exact h
theorem bits_B {τ : St} {N : Nat} (h : BA τ N.testBit) (f n : Nat) (hn1 : 1 ≤ n) (hn : n ≤ 64) (hf : f + n ≤ 80) : uN (f_MC_bits τ (nI f) (nI n)) = N / 2 ^ f % 2 ^ n := by
  have v1 : nI n - 1 = nI (n - 1) := pk_sub (b := 1) (by omega)
  have em : (-1 : Int32).toInt = -1 := by decide
  have e1 : (nI (n - 1)).toInt = ((n - 1 : Nat) : Int) := nI_toInt (by omega)
  unfold f_MC_bits
  simp only [v1]
  refine lpn_P (b := b_MC_bits_7 τ (nI f)) (fun i t => t.1.toInt = (n : Int) - 1 - i ∧ uN t.2 = N / 2 ^ (f + n - i) % 2 ^ i) (fun y => uN y.2 = N / 2 ^ f % 2 ^ n) n ?_ ?_ ?_ ?_
  · intro i t hi ⟨t1, t2⟩
    obtain ⟨a, b⟩ := t
    simp only at t1 t2
    obtain ⟨q, hq⟩ : ∃ q : Nat, q = n - 1 - i := ⟨_, rfl⟩
    have ea : a = nI q := by
      apply Int32.toInt_inj.mp
      rw [t1, nI_toInt (by omega)]
      omega
    have c2 : ¬ nI q < 0 := nI_pos (by omega)
    have e0 : nI f + nI q = nI (f + q) := nI_add f q
    refine ⟨(nI q + (-1), 2 * b + Int32.toInt64 (nI (N.testBit (f + q)).toNat)), ?_, ?_, ?_⟩
    · unfold b_MC_bits_7
      simp only [ea, c2, if_false, e0, bit_B h (show f + q < 80 by omega)]
    · show (nI q + (-1)).toInt = _
      rw [i32_addT (by rw [nI_toInt (by omega), em]; omega) (by rw [nI_toInt (by omega), em]; omega), nI_toInt (by omega), em]
      omega
    · show uN (2 * b + Int32.toInt64 (nI (N.testBit (f + q)).toNat)) = _
      have tl := tn1 (N.testBit (f + q))
      have pi : (2 : Nat) ^ i ≤ 2 ^ 63 := Nat.pow_le_pow_right (by decide) (by omega)
      have ml : N / 2 ^ (f + n - i) % 2 ^ i < 2 ^ i := Nat.mod_lt _ (pow_pos2 i)
      rw [uN_add, dbl_two, uN_nI (by omega), t2]
      have x1 : f + n - (i + 1) = f + q := by omega
      have x2 : f + n - i = f + q + 1 := by omega
      rw [x1, x2]
      rw [x2] at ml
      have x3 : N / 2 ^ (f + q + 1) = N / 2 ^ (f + q) / 2 := by rw [Nat.pow_succ, Nat.div_div_eq_div_mul]
      have x4 : (N.testBit (f + q)).toNat = N / 2 ^ (f + q) % 2 := by
        rw [ntb]
        rcases Nat.mod_two_eq_zero_or_one (N / 2 ^ (f + q)) with z | z <;> rw [z] <;> rfl
      rw [x3, x4]
      rw [x3] at ml
      generalize N / 2 ^ (f + q) = M at *
      have x5 : M % 2 ^ (i + 1) = M % 2 + 2 * (M / 2 % 2 ^ i) := by
        rw [Nat.pow_succ, Nat.mul_comm (2 ^ i), Nat.mod_mul]
      rw [x5]
      omega
  · intro t ⟨t1, t2⟩
    obtain ⟨a, b⟩ := t
    simp only at t1 t2
    have c1 : a < 0 := Int32.lt_iff_toInt_lt.mpr (by rw [t1]; show _ < (0 : Int); omega)
    refine ⟨(a, b), ?_, ?_⟩
    · unfold b_MC_bits_7
      simp only [c1, if_true]
    · show uN b = _
      rw [t2, Nat.add_sub_cancel]
  · unfold dnf
    rw [e1]
    omega
  · refine ⟨?_, ?_⟩
    · show (nI (n - 1)).toInt = _
      rw [e1]
      omega
    · show uN 0 = _
      rw [Nat.pow_zero, Nat.mod_one]
      rfl
