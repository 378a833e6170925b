/-! the reference: numbers written -/
theorem RQ_bit {N i : Nat} {e q : Int} (hN : N < 2 ^ i) :
    (0 ≤ e + i - q → RQ (N + 2 ^ i) false e q = ((RQ N false e q).1 + 2 ^ (e + i - q).toNat, (RQ N false e q).2.1, (RQ N false e q).2.2) ∧ (RQ N false e q).1 < 2 ^ (e + i - q).toNat) ∧
    (e + i - q = -1 → RQ (N + 2 ^ i) false e q = ((RQ N false e q).1, true, (RQ N false e q).2.2)) ∧
    (e + i - q < -1 → RQ (N + 2 ^ i) false e q = ((RQ N false e q).1, (RQ N false e q).2.1, true)) := by
  by_cases c : e ≤ q
  · obtain ⟨d, hd⟩ : ∃ d : Nat, q = e + d := ⟨(q - e).toNat, by omega⟩
    rw [RQ_ge d hd, RQ_ge d hd]
    try dsimp only
    refine ⟨fun g => ?_, fun g => ?_, fun g => ?_⟩
    · obtain ⟨j, hj⟩ : ∃ j : Nat, i = d + j := ⟨i - d, by omega⟩
      have ej : (e + i - q).toNat = j := by omega
      rw [ej]
      have e1 : (N + 2 ^ i) / 2 ^ d = N / 2 ^ d + 2 ^ j := by rw [hj, Nat.pow_add, Nat.add_mul_div_left _ _ (pow_pos2 d)]
      have e2 : hb (N + 2 ^ i) d = hb N d := by
        unfold hb
        by_cases z : 0 < d
        · obtain ⟨y, rfl⟩ : ∃ y, d = y + 1 := ⟨d - 1, by omega⟩
          rw [ntb, ntb, Nat.add_sub_cancel, hj, show y + 1 + j = y + (1 + j) by omega, Nat.pow_add, Nat.add_mul_div_left _ _ (pow_pos2 y), Nat.pow_add 2 1 j, Nat.pow_one, Nat.add_mul_mod_self_left]
        · simp [z]
      have e3 : rsb (N + 2 ^ i) d false = rsb N d false := by
        unfold rsb
        have : i = (d - 1) + (i - (d - 1)) := by omega
        rw [this, Nat.pow_add, Nat.add_mul_mod_self_left]
      rw [e1, e2, e3]
      refine ⟨rfl, ?_⟩
      rw [Nat.div_lt_iff_lt_mul (pow_pos2 d), ← Nat.pow_add, Nat.add_comm j d, ← hj]
      exact hN
    · obtain rfl : d = i + 1 := by omega
      have e1 : (N + 2 ^ i) / 2 ^ (i + 1) = N / 2 ^ (i + 1) := by
        rw [Nat.div_eq_of_lt (by rw [Nat.pow_succ]; omega), Nat.div_eq_of_lt (by rw [Nat.pow_succ]; omega)]
      have e2 : hb (N + 2 ^ i) (i + 1) = true := by
        unfold hb
        rw [ntb, Nat.add_sub_cancel, Nat.add_div_right _ (pow_pos2 i), Nat.div_eq_of_lt hN]
        simp
      have e3 : rsb (N + 2 ^ i) (i + 1) false = rsb N (i + 1) false := by
        unfold rsb
        rw [Nat.add_sub_cancel, Nat.add_mod_right]
      rw [e1, e2, e3]
    · have hid : i + 2 ≤ d := by omega
      have p1 : (2 : Nat) ^ (i + 1) ≤ 2 ^ (d - 1) := Nat.pow_le_pow_right (by decide) (by omega)
      have p2 : (2 : Nat) ^ (d - 1) ≤ 2 ^ d := Nat.pow_le_pow_right (by decide) (by omega)
      rw [Nat.pow_succ] at p1
      have e1 : (N + 2 ^ i) / 2 ^ d = N / 2 ^ d := by rw [Nat.div_eq_of_lt (by omega), Nat.div_eq_of_lt (by omega)]
      have e2 : hb (N + 2 ^ i) d = hb N d := by
        unfold hb
        rw [ntb, ntb, Nat.div_eq_of_lt (by omega), Nat.div_eq_of_lt (by omega)]
      have e3 : rsb (N + 2 ^ i) d false = true := by
        unfold rsb
        have p3 := pow_pos2 i
        rw [Nat.mod_eq_of_lt (by omega), decide_eq_true (by omega)]
        rfl
      rw [e1, e2, e3]
  · obtain ⟨d, hd⟩ : ∃ d : Nat, e = q + d := ⟨(e - q).toNat, by omega⟩
    have d0 : 0 < d := by omega
    rw [RQ_lt d hd d0, RQ_lt d hd d0]
    try dsimp only
    refine ⟨fun g => ?_, fun g => ?_, fun g => ?_⟩
    · have ej : (e + i - q).toNat = i + d := by omega
      rw [ej, Nat.add_mul, Nat.pow_add]
      exact ⟨rfl, Nat.mul_lt_mul_of_pos_right hN (pow_pos2 d)⟩
    · omega
    · omega
def fr42 (τ ρ : St) : Prop := (∀ k x, gI ρ k x = gI τ k x) ∧ (∀ k x, k ≠ 42 → gJ ρ k x = gJ τ k x) ∧ (∀ k x, k ≠ 43 → k ≠ 44 → gZ ρ k x = gZ τ k x)
theorem fr42_refl (τ : St) : fr42 τ τ := ⟨fun _ _ => rfl, fun _ _ _ => rfl, fun _ _ _ _ => rfl⟩
theorem fr42_trans {τ ρ σ : St} (h : fr42 τ ρ) (g : fr42 ρ σ) : fr42 τ σ := ⟨fun k x => (g.1 k x).trans (h.1 k x), fun k x a => (g.2.1 k x a).trans (h.2.1 k x a), fun k x a b => (g.2.2 k x a b).trans (h.2.2 k x a b)⟩
theorem fr42_J (τ : St) (v : Int64) : fr42 τ (sJ τ 42 45 v) := ⟨fun _ _ => rfl, fun k x a => by rw [gJ_sJ, if_neg a], fun _ _ _ _ => rfl⟩
theorem fr42_Z (τ : St) (v : Bool) : fr42 τ (sZ τ 43 45 v) := ⟨fun _ _ => rfl, fun _ _ _ => rfl, fun k x a _ => by rw [gZ_sZ, if_neg a]⟩
theorem fr42_Z4 (τ : St) (v : Bool) : fr42 τ (sZ τ 44 45 v) := ⟨fun _ _ => rfl, fun _ _ _ => rfl, fun k x _ b => by rw [gZ_sZ, if_neg b]⟩
theorem frC_42 {τ ρ : St} (h : fr42 τ ρ) : frC τ ρ := fun k x a b => ⟨h.1 k x, h.2.1 k x (by omega), h.2.2 k x (by omega) (by omega)⟩
def RInv (τ : St) (F : Nat) (e q : Int) (i : Nat) (t : Int32 × Bool × Bool × St) : Prop := t.1 = nI i ∧ t.2.1 = (RQ (F % 2 ^ i) false e q).2.2 ∧ t.2.2.1 = (RQ (F % 2 ^ i) false e q).2.1 ∧ fr42 τ t.2.2.2 ∧ uN (gJ t.2.2.2 42 45) = (RQ (F % 2 ^ i) false e q).1 % 18446744073709551616 ∧ gZ t.2.2.2 43 45 = decide (18446744073709551616 ≤ (RQ (F % 2 ^ i) false e q).1)
theorem rstep_B {τ : St} {F : Nat} {e q : Int} {Q U : Int32} (hF : uN (gJ τ 41 45) = F) (hU : U.toInt = e) (hQ : Q.toInt = q) (he : -30000 ≤ e ∧ e ≤ 30000) (hq : -30000 ≤ q ∧ q ≤ 30000) {i : Nat} {t : Int32 × Bool × Bool × St} (hi : i < 64) (h : RInv τ F e q i t) : ∃ t1, b_MC_round_39 Q U t = (true, t1) ∧ RInv τ F e q (i + 1) t1 := by
  obtain ⟨t0, rs, hf, s⟩ := t
  obtain ⟨h1, h2, h3, h4, h5, h6⟩ := h
  simp only at h1 h2 h3 h4 h5 h6
  subst h1
  have c0 : ¬ (64 : Int32) ≤ nI i := nI_ge (b := 64) hi (by decide)
  have g41 : uN (gJ s 41 45) = F := by rw [h4.2.1 41 45 (by decide)]; exact hF
  have bt : (jlshr (gJ s 41 45) (nI i) &&& 1 = 1) ↔ F.testBit i = true := by
    have := bit1 (gJ s 41 45) i rfl hi
    rw [g41] at this
    exact this
  have ei : (nI i).toInt = i := nI_toInt (by omega)
  have v1 : (U + nI i).toInt = e + i := by rw [i32_addT (by omega) (by omega), hU, ei]
  have v2 : (U + nI i - Q).toInt = e + i - q := by rw [i32_subT (by omega) (by omega), v1, hQ]
  have ms := mod_succ F i
  have N := Nat.mod_lt F (pow_pos2 i)
  obtain ⟨r1, r2, r3⟩ := RQ_bit (N := F % 2 ^ i) (i := i) (e := e) (q := q) N
  unfold b_MC_round_39
  simp only [c0, if_false, bt]
  cases b : F.testBit i with
  | false =>
    rw [b] at ms
    have ms' : F % 2 ^ (i + 1) = F % 2 ^ i := by
      rw [ms]
      simp
    rw [if_neg Bool.false_ne_true]
    refine ⟨_, rfl, ?_⟩
    unfold RInv
    try dsimp only
    rw [ms']
    exact ⟨nI_1 i, h2, h3, h4, h5, h6⟩
  | true =>
    rw [b] at ms
    have ms' : F % 2 ^ (i + 1) = F % 2 ^ i + 2 ^ i := by
      rw [ms]
      simp
    rw [if_pos (rfl : true = true)]
    generalize hX : RQ (F % 2 ^ i) false e q = X at *
    rw [← ms'] at r1 r2 r3
    generalize hV : U + nI i - Q = V at *
    have e63 : (63 : Int32).toInt = 63 := by decide
    have e64 : (64 : Int32).toInt = 64 := by decide
    have em1 : (-1 : Int32).toInt = -1 := by decide
    have c63 : (V ≤ 63) ↔ e + i - q ≤ 63 := by rw [Int32.le_iff_toInt_le, v2, e63]
    have cn : (V < 0) ↔ e + i - q < 0 := by rw [Int32.lt_iff_toInt_lt, v2]; rfl
    have c64 : (64 ≤ V) ↔ 64 ≤ e + i - q := by rw [Int32.le_iff_toInt_le, v2, e64]
    have cm : (V = -1) ↔ e + i - q = -1 := by rw [← Int32.toInt_inj, v2, em1]
    have cl : (-1 ≤ V) ↔ -1 ≤ e + i - q := by rw [Int32.le_iff_toInt_le, v2, em1]
    simp only [c63, cn, c64, cm, cl, h6]
    refine ⟨_, rfl, ?_⟩
    unfold RInv
    try dsimp only
    by_cases g0 : 0 ≤ e + i - q
    · obtain ⟨r1a, r1b⟩ := r1 g0
      rw [r1a]
      try dsimp only
      have n1 : ¬ e + i - q = -1 := by omega
      have n2 : -1 ≤ e + i - q := by omega
      have n3 : ¬ e + i - q < 0 := by omega
      rw [if_neg n3, if_neg n1, if_pos n2]
      refine ⟨nI_1 i, ?_, ?_, ?_⟩
      · rw [h2]
        cases X.2.2 <;> rfl
      · rw [h3]
        cases X.2.1 <;> rfl
      · by_cases g1 : 64 ≤ e + i - q
        · rw [if_pos g1, if_neg (show ¬ e + i - q ≤ 63 by omega)]
          have pw : 18446744073709551616 ≤ 2 ^ (e + i - q).toNat := Nat.pow_le_pow_right (n := 2) (i := 64) (by decide) (by omega)
          refine ⟨fr42_trans h4 (fr42_Z _ _), ?_, ?_⟩
          · show uN (gJ s 42 45) = _
            rw [h5]
            obtain ⟨j, hj⟩ : ∃ j : Nat, (e + i - q).toNat = 64 + j := ⟨(e + i - q).toNat - 64, by omega⟩
            rw [hj, Nat.pow_add, show (2 : Nat) ^ 64 = 18446744073709551616 from rfl, Nat.add_mul_mod_self_left]
          · rw [gZ_sZ, if_pos rfl, if_pos rfl, decide_eq_true (show 18446744073709551616 ≤ X.1 + 2 ^ (e + i - q).toNat by omega)]
            split <;> rfl
        · rw [if_neg g1, if_pos (show e + i - q ≤ 63 by omega)]
          obtain ⟨g, hg⟩ : ∃ g : Nat, (e + i - q).toNat = g := ⟨_, rfl⟩
          rw [hg] at r1b ⊢
          have Vg : V = nI g := by
            apply Int32.toInt_inj.mp
            rw [v2, nI_toInt (by omega)]
            omega
          have pg : (2 : Nat) ^ g ≤ 9223372036854775808 := Nat.pow_le_pow_right (n := 2) (j := 63) (by decide) (by omega)
          refine ⟨fr42_trans h4 (fr42_trans (fr42_Z _ _) (fr42_J _ _)), ?_, ?_⟩
          · rw [gJ_sJ, if_pos rfl, if_pos rfl, uN_add, uN_jlshl 1 g Vg (by omega), show uN 1 = 1 from rfl]
            have : uN (gJ (sZ s 43 45 (if decide (18446744073709551616 ≤ X.1) = true then true else false)) 42 45) = X.1 % 18446744073709551616 := h5
            rw [this]
            omega
          · show gZ (sZ s 43 45 _) 43 45 = _
            rw [gZ_sZ, if_pos rfl, if_pos rfl, decide_eq_false (show ¬ 18446744073709551616 ≤ X.1 by omega), decide_eq_false (show ¬ 18446744073709551616 ≤ X.1 + 2 ^ g by omega)]
            rfl
    · have n3 : e + i - q < 0 := by omega
      have n63 : e + i - q ≤ 63 := by omega
      rw [if_pos n3, if_pos n63]
      have fin : fr42 τ (sZ s 43 45 (if decide (18446744073709551616 ≤ X.1) = true then true else false)) ∧ uN (gJ (sZ s 43 45 (if decide (18446744073709551616 ≤ X.1) = true then true else false)) 42 45) = X.1 % 18446744073709551616 ∧ gZ (sZ s 43 45 (if decide (18446744073709551616 ≤ X.1) = true then true else false)) 43 45 = decide (18446744073709551616 ≤ X.1) := by
        refine ⟨fr42_trans h4 (fr42_Z _ _), h5, ?_⟩
        rw [gZ_sZ, if_pos rfl, if_pos rfl]
        cases decide (18446744073709551616 ≤ X.1) <;> rfl
      by_cases g1 : e + i - q = -1
      · rw [r2 g1, if_pos g1, if_pos (show -1 ≤ e + i - q by omega)]
        refine ⟨nI_1 i, ?_, ?_, fin⟩
        · rw [h2]
          cases X.2.2 <;> rfl
        · split <;> rfl
      · rw [r3 (by omega), if_neg g1, if_neg (show ¬ -1 ≤ e + i - q by omega)]
        refine ⟨nI_1 i, ?_, ?_, fin⟩
        · split <;> rfl
        · rw [h3]
          cases X.2.1 <;> rfl
theorem unit_B {τ : St} {P : Nat} (hP : gI τ 40 45 = nI P) (pP : P ≤ 32767) : ((if gI τ 40 45 = 0 then (1 : Int32) else gI τ 40 45) - 16446).toInt = unitN P := by
  have e1 : (16446 : Int32).toInt = 16446 := by decide
  have e2 : (1 : Int32).toInt = 1 := by decide
  unfold unitN
  rw [hP]
  by_cases c : P = 0
  · subst c
    rw [if_pos (show nI 0 = (0 : Int32) from rfl), if_pos rfl, i32_subT (by omega) (by omega), e1, e2]
  · have c2 : ¬ nI P = 0 := nI_ne0 (by omega) (by omega)
    have e3 : (nI P).toInt = P := nI_toInt (by omega)
    rw [if_neg c2, if_neg c, i32_subT (by omega) (by omega), e1, e3]
theorem way_up {way : Nat} {mi h r : Bool} {X : Nat} {v : Int64} (hway : way ≤ 4) (hv : uN v = X % 18446744073709551616) : (if nI way = 0 then (if h = true then (if r = true then true else if jlrem v 2 = 0 then false else true) else false) else if nI way = 4 then (if h = true then (if r = true then true else false) else false) else if (if h = true then true else if r = true then true else false) = true then (if nI way = (if mi = true then (1 : Int32) else 2) then true else false) else false) = upS way mi (X, h, r) := by
  have l := lrem2 v
  rw [hv] at l
  have od : (X % 18446744073709551616 % 2 = 0) ↔ ¬ X % 2 = 1 := by omega
  rw [od] at l
  simp only [l]
  unfold upS lossy
  rcases (show way = 0 ∨ way = 1 ∨ way = 2 ∨ way = 3 ∨ way = 4 by omega) with rfl | rfl | rfl | rfl | rfl
  · rw [if_pos (show nI 0 = 0 by decide)]
    by_cases z : X % 2 = 1 <;> cases h <;> cases r <;> simp [z]
  · rw [if_neg (show ¬ nI 1 = 0 by decide), if_neg (show ¬ nI 1 = 4 by decide)]
    cases mi <;> cases h <;> cases r <;> rfl
  · rw [if_neg (show ¬ nI 2 = 0 by decide), if_neg (show ¬ nI 2 = 4 by decide)]
    cases mi <;> cases h <;> cases r <;> rfl
  · rw [if_neg (show ¬ nI 3 = 0 by decide), if_neg (show ¬ nI 3 = 4 by decide)]
    cases mi <;> cases h <;> cases r <;> rfl
  · rw [if_neg (show ¬ nI 4 = 0 by decide), if_pos (show nI 4 = 4 by decide)]
    cases h <;> cases r <;> rfl
theorem round_B {τ : St} {P F way : Nat} {mi : Bool} {Q : Int32} {q : Int} (hm : gZ τ 39 45 = mi) (hP : gI τ 40 45 = nI P) (pP : P ≤ 32767) (hF : uN (gJ τ 41 45) = F) (hQ : Q.toInt = q) (hq : -30000 ≤ q ∧ q ≤ 30000) (hway : way ≤ 4) : fr42 τ (f_MC_round τ Q (nI way)) ∧ gZ (f_MC_round τ Q (nI way)) 43 45 = decide (18446744073709551616 ≤ (RQ F false (unitN P) q).1) ∧ gZ (f_MC_round τ Q (nI way)) 44 45 = lossy (RQ F false (unitN P) q) ∧ uN (gJ (f_MC_round τ Q (nI way)) 42 45) = rnd way mi (RQ F false (unitN P) q) % 18446744073709551616 := by
  have hu := unit_B hP pP
  have er := unitN_rng pP
  have bF := uN_lt2 (gJ τ 41 45)
  rw [hF] at bF
  unfold f_MC_round
  try dsimp only
  generalize (if gI τ 40 45 = 0 then (1 : Int32) else gI τ 40 45) - 16446 = U at *
  have key : ∃ t, lpn (b_MC_round_39 Q U) (upf 64 0) (0, false, false, sZ (sJ τ 42 45 0) 43 45 false) = t ∧ RInv τ F (unitN P) q 64 t := by
    refine ⟨_, rfl, ?_⟩
    refine lpn_P (b := b_MC_round_39 Q U) (fun i t => RInv τ F (unitN P) q i t) (fun y => RInv τ F (unitN P) q 64 y) 64 ?_ ?_ (by decide) ?_
    · intro i t hi h
      exact rstep_B hF hu hQ (by omega) hq hi h
    · intro t h
      refine ⟨t, ?_, h⟩
      obtain ⟨t0, rs, hf, s⟩ := t
      have h1 := h.1
      simp only at h1
      subst h1
      have c0 : (64 : Int32) ≤ nI 64 := by decide
      unfold b_MC_round_39
      simp only [c0, if_true]
    · have z : RQ (F % 2 ^ 0) false (unitN P) q = (0, false, false) := by
        rw [Nat.pow_zero, Nat.mod_one]
        exact RQ_zero _ _
      unfold RInv
      rw [z]
      refine ⟨rfl, rfl, rfl, fr42_trans (fr42_J _ _) (fr42_Z _ _), ?_, ?_⟩
      · show uN (gJ (sJ τ 42 45 0) 42 45) = _
        rw [gJ_sJ, if_pos rfl, if_pos rfl]
        rfl
      · rw [gZ_sZ, if_pos rfl, if_pos rfl]
        rfl
  obtain ⟨⟨t0, rs, hf, s⟩, e1, h1, h2, h3, h4, h5, h6⟩ := key
  rw [e1]
  simp only at h1 h2 h3 h4 h5 h6 ⊢
  rw [Nat.mod_eq_of_lt bF] at h2 h3 h5 h6
  generalize RQ F false (unitN P) q = X at *
  have g44 : ∀ b, gZ (sZ s 44 45 b) 44 45 = b := fun b => by rw [gZ_sZ, if_pos rfl, if_pos rfl]
  have g39 : ∀ b, gZ (sZ s 44 45 b) 39 45 = mi := fun b => by
    rw [gZ_sZ, if_neg (by decide), h4.2.2 39 45 (by decide) (by decide)]
    exact hm
  have g42 : ∀ b, gJ (sZ s 44 45 b) 42 45 = gJ s 42 45 := fun b => rfl
  simp only [g44, g39, g42]
  rw [way_up (X := X.1) hway h5]
  have lo : (if hf = true then true else if rs = true then true else false) = lossy X := by
    rw [h2, h3]
    unfold lossy
    cases X.2.1 <;> cases X.2.2 <;> rfl
  have uX : upS way mi (X.1, hf, rs) = upS way mi X := by rw [h2, h3]
  rw [lo, uX]
  refine ⟨fr42_trans h4 (fr42_trans (fr42_Z4 _ _) (fr42_J _ _)), ?_, ?_, ?_⟩
  · show gZ (sZ s 44 45 (lossy X)) 43 45 = _
    rw [gZ_sZ, if_neg (by decide)]
    exact h6
  · show gZ (sZ s 44 45 (lossy X)) 44 45 = _
    exact g44 _
  · rw [gJ_sJ, if_pos rfl, if_pos rfl]
    unfold rnd
    cases upS way mi X with
    | true =>
      rw [if_pos (rfl : true = true), uN_add, h5, show uN 1 = 1 from rfl]
      show _ = (X.1 + 1) % _
      omega
    | false =>
      rw [if_neg Bool.false_ne_true, h5]
      rfl
