/-! the reference: floating numbers written; all formats -/
theorem pack_tb {d p V f v : Nat} {s : Bool} (hd : 1 ≤ d) (hf : f < 2 ^ (d - 1)) (hv : v < 2 ^ p) (hV : V = (if s then 2 ^ (d + p - 1) else 0) + (v * 2 ^ (d - 1) + f)) (x : Nat) (hx : x < d + p) : V.testBit x = if x < d - 1 then f.testBit x else if x < d - 1 + p then v.testBit (x - (d - 1)) else s := by
  have l : v + 2 ^ p * s.toNat < 2 ^ (p + 1) := by
    have := tn1 s
    have h2 : 2 ^ p * s.toNat ≤ 2 ^ p * 1 := Nat.mul_le_mul_left _ this
    rw [Nat.pow_succ]
    omega
  have e : V = 2 ^ (d - 1) * (2 ^ p * s.toNat + v) + f := by
    rw [hV, Nat.mul_add, ← Nat.mul_assoc, ← Nat.pow_add, show d - 1 + p = d + p - 1 by omega, Nat.mul_comm v]
    cases s <;> simp [Nat.add_assoc]
  rw [e, Nat.testBit_two_pow_mul_add _ hf]
  by_cases c : x < d - 1
  · rw [if_pos c, if_pos c]
  · rw [if_neg c, if_neg c, Nat.testBit_two_pow_mul_add _ hv]
    by_cases c2 : x < d - 1 + p
    · rw [if_pos (by omega), if_pos c2]
    · rw [if_neg (by omega), if_neg c2, show x - (d - 1) - p = 0 by omega]
      cases s <;> rfl
theorem pack_B {τ : St} {d p c V : Nat} {s : Bool} {v f : Int64} (hdp : dpc d p c) (hb : Byt τ) (hV : V = sgW d p s + ((uN v % 2 ^ p) * 2 ^ (d - 1) + uN f % 2 ^ (d - 1))) : fr114 τ (f_MC_pack τ (nI d) (nI p) s v f) ∧ Byt (f_MC_pack τ (nI d) (nI p) s v f) ∧ ∀ k, k < c → gI (f_MC_pack τ (nI d) (nI p) s v f) 114 k = nI (vB V k) := by
  have dp8 : d + p = 8 * c ∧ 24 ≤ d ∧ d ≤ 53 ∧ p ≤ 11 ∧ c ≤ 8 := by rcases hdp with ⟨rfl, rfl, rfl⟩ | ⟨rfl, rfl, rfl⟩ <;> decide
  obtain ⟨β, hβ⟩ := BA_Byt hb
  have d1 : nI d - 1 = nI (d - 1) := pk_sub (b := 1) (by omega)
  have d2 : nI (d - 1) + nI p = nI (d - 1 + p) := nI_add _ _
  unfold f_MC_pack
  rw [sb0, d1, d2]
  try dsimp only
  obtain ⟨k1, k2⟩ := setBits_B hβ 0 (d - 1) f (by omega) (by omega)
  generalize f_MC_setBits τ (nI 0) (nI (d - 1)) f = s1 at *
  obtain ⟨k3, k4⟩ := setBits_B k1 (d - 1) p v (by omega) (by omega)
  generalize f_MC_setBits s1 (nI (d - 1)) (nI p) v = s2 at *
  obtain ⟨k5, k6⟩ := setBit_B k3 (i := d - 1 + p) (by omega) s
  generalize f_MC_setBit s2 (nI (d - 1 + p)) s = s3 at *
  refine ⟨fr114_trans k2 (fr114_trans k4 k6), Byt_BA k5, bytes_B k5 (by omega) (fun x hx => ?_)⟩
  try dsimp only
  rw [pack_tb (s := s) (d := d) (p := p) (by omega) (Nat.mod_lt (uN f) (pow_pos2 (d - 1))) (Nat.mod_lt (uN v) (pow_pos2 p)) (by rw [hV]; rfl) x (by omega)]
  by_cases c1 : x = d - 1 + p
  · rw [if_pos c1, if_neg (by omega), if_neg (by omega)]
  · rw [if_neg c1]
    by_cases c2 : x < d - 1
    · rw [if_neg (by omega), if_pos ⟨by omega, by omega⟩, if_pos c2, Nat.sub_zero, Nat.testBit_mod_two_pow]
      simp [c2]
    · rw [if_pos ⟨by omega, by omega⟩, if_neg c2, if_pos (by omega), Nat.testBit_mod_two_pow]
      have : x - (d - 1) < p := by omega
      simp [this]
theorem endless_B {τ : St} {P F : Nat} (hP : gI τ 40 45 = nI P) (pP : P ≤ 32767) (hF : uN (gJ τ 41 45) = F) : f_MC_isEndless τ = isInf P F := by
  have bF := uN_lt (gJ τ 41 45)
  have c1 : (nI P = 32767) ↔ P = 32767 := nI_eq (b := 32767) (by omega) (by decide)
  have c3 : (jlshl (gJ τ 41 45) 1 = 0) ↔ F % 9223372036854775808 = 0 := by
    rw [uN_eq0, dbl1, hF]
    omega
  unfold f_MC_isEndless isInf
  simp only [hP, c1, c3]
  by_cases d1 : P = 32767 <;> by_cases d2 : F % 9223372036854775808 = 0 <;> simp [d1, d2]
theorem p_dp {d p c : Nat} (h : dpc d p c) : uN (jlshl 1 (nI p) - 1) = 2 ^ p - 1 ∧ jshl 1 (nI p - 1) = nI (2 ^ (p - 1)) ∧ uN (jlshl 1 (nI d - 2)) = 2 ^ (d - 2) ∧ nI d - 1 = nI (d - 1) ∧ (64 : Int32) - nI d = nI (64 - d) := by
  have u1 : uN 1 = 1 := rfl
  rcases h with ⟨rfl, rfl, rfl⟩ | ⟨rfl, rfl, rfl⟩
  · refine ⟨?_, by decide, ?_, by decide, by decide⟩
    · rw [uN_sub, uN_jlshl 1 8 (by decide) (by decide), u1]
    · rw [uN_jlshl 1 22 (by decide) (by decide), u1]
  · refine ⟨?_, by decide, ?_, by decide, by decide⟩
    · rw [uN_sub, uN_jlshl 1 11 (by decide) (by decide), u1]
    · rw [uN_jlshl 1 51 (by decide) (by decide), u1]
theorem upW_loop {τ : St} {d p c F : Nat} (h : dpc d p c) (hF : uN (gJ τ 41 45) = F) : uN (lpn (b_MC_writeReal_33 τ (nI d)) (upf (nI d - 1) 0) (0, 0)).2 = F / 2 ^ (64 - d) % 2 ^ (d - 1) := by
  obtain ⟨-, -, -, d1, d64⟩ := p_dp h
  have dd : 24 ≤ d ∧ d ≤ 53 := by rcases h with ⟨rfl, rfl, rfl⟩ | ⟨rfl, rfl, rfl⟩ <;> decide
  refine lpn_P (b := b_MC_writeReal_33 τ (nI d)) (fun i t => t.1 = nI i ∧ uN t.2 = F / 2 ^ (64 - d) % 2 ^ i) (fun y => uN y.2 = F / 2 ^ (64 - d) % 2 ^ (d - 1)) (d - 1) ?_ ?_ ?_ ?_
  · intro i t hi ⟨t1, t2⟩
    obtain ⟨a, b⟩ := t
    simp only at t1 t2
    subst t1
    have c1 : ¬ nI (d - 1) ≤ nI i := nI_ge (by omega) (by omega)
    have sh : nI (64 - d) + nI i = nI (64 - d + i) := nI_add _ _
    refine ⟨(nI (i + 1), b + jlshl (jlshr (gJ τ 41 45) (nI (64 - d + i)) &&& 1) (nI i)), ?_, rfl, ?_⟩
    · unfold b_MC_writeReal_33
      simp only [d1, c1, if_false, d64, sh, nI_1]
    · show uN (b + jlshl (jlshr (gJ τ 41 45) (nI (64 - d + i)) &&& 1) (nI i)) = _
      have p1 : (2 : Nat) ^ i ≤ 2 ^ 52 := Nat.pow_le_pow_right (by decide) (by omega)
      have e52 : (2 : Nat) ^ 52 = 4503599627370496 := rfl
      have ml : F / 2 ^ (64 - d) % 2 ^ i < 2 ^ i := Nat.mod_lt _ (pow_pos2 i)
      rw [uN_add, uN_jlshl _ i rfl (by omega), uN_bitb (gJ τ 41 45) (64 - d + i) rfl (by omega), hF, t2, mod_succ, tbN, Nat.pow_add, ← Nat.div_div_eq_div_mul]
      have b2 : F / 2 ^ (64 - d) / 2 ^ i % 2 ≤ 1 := by omega
      have b3 := Nat.mul_le_mul_right (2 ^ i) b2
      generalize F / 2 ^ (64 - d) / 2 ^ i % 2 * 2 ^ i = Y at *
      omega
  · intro t ⟨t1, t2⟩
    obtain ⟨a, b⟩ := t
    simp only at t1 t2
    subst t1
    have c1 : nI (d - 1) ≤ nI (d - 1) := nI_le (by omega) (by omega)
    refine ⟨(nI (d - 1), b), ?_, t2⟩
    unfold b_MC_writeReal_33
    simp only [d1, c1, if_true]
  · unfold upf
    rw [d1, nI_toInt (by omega)]
    show d - 1 < (((d - 1 : Nat) : Int) - 0).toNat + 1
    omega
  · refine ⟨rfl, ?_⟩
    show uN 0 = _
    rw [Nat.pow_zero, Nat.mod_one]
    rfl
theorem endsW_i {w : Nat} : endsW w 8 = !decide (w / 8 % 2 = 1) ∧ endsW w 16 = !decide (w / 16 % 2 = 1) := by
  unfold endsW endsN
  rcases Nat.mod_two_eq_zero_or_one (w / 8) with z | z <;> rcases Nat.mod_two_eq_zero_or_one (w / 16) with y | y <;> simp [z, y]
theorem jshr1 {u : Int64} {n X : Nat} (hu : uN u = X) (hX : X ≤ 2 ^ n) (hn : n ≤ 53) : (jlshr u (nI n) = 1) ↔ X = 2 ^ n := by
  have p1 : (2 : Nat) ^ n ≤ 2 ^ 53 := Nat.pow_le_pow_right (by decide) (by omega)
  have e53 : (2 : Nat) ^ 53 = 9007199254740992 := rfl
  have p0 := pow_pos2 n
  have s := uN_jlshr (x := u) (by omega) (k := n) (by omega)
  rw [uN_eq, s, hu, show uN 1 = 1 from rfl]
  constructor
  · intro q
    by_cases c : X < 2 ^ n
    · rw [Nat.div_eq_of_lt c] at q
      omega
    · omega
  · intro q
    rw [q, Nat.div_self p0]
theorem nP {d p : Nat} {A : Re} {w X : Nat} (hd : 2 ≤ d) (hp : 2 ≤ p) (hX : X = rnd (wayOf w) A.1 (norX d A)) (x1 : 2 ^ (d - 1) ≤ X) (x2 : X ≤ 2 ^ d) (hlo : ¬ expS A < 2 - ((2 ^ (p - 1) : Nat) : Int)) (K : Int) (hK : K = if X = 2 ^ d then expS A + 1 else expS A) : ((expS A < ((2 ^ (p - 1) : Nat) : Int) ∧ norP w d p A < allW d p) ↔ K < ((2 ^ (p - 1) : Nat) : Int)) ∧ norP w d p A = (K + ((2 ^ (p - 1) : Nat) : Int) - 1).toNat * 2 ^ (d - 1) + (if X = 2 ^ d then 0 else X) % 2 ^ (d - 1) := by
  have pd : (2 : Nat) ^ d = 2 * 2 ^ (d - 1) := by
    rw [show d = (d - 1) + 1 by omega, Nat.pow_succ, Nat.add_sub_cancel, Nat.mul_comm]
  have pp : (2 : Nat) ^ p = 2 * 2 ^ (p - 1) := by
    rw [show p = (p - 1) + 1 by omega, Nat.pow_succ, Nat.add_sub_cancel, Nat.mul_comm]
  have d0 := pow_pos2 (d - 1)
  have q0 := pow_pos2 (p - 1)
  unfold norP allW
  rw [← hX, pp]
  rw [pd] at x2 hK ⊢
  generalize 2 ^ (p - 1) = Q at *
  generalize 2 ^ (d - 1) = D at *
  obtain ⟨k, hk⟩ : ∃ k : Nat, expS A + (Q : Int) - 2 = k := ⟨(expS A + (Q : Int) - 2).toNat, by omega⟩
  have k1 : (expS A + (Q : Int) - 2).toNat = k := by omega
  rw [k1]
  by_cases c : X = 2 * D
  · rw [if_pos c] at hK ⊢
    have k2 : (K + (Q : Int) - 1).toNat = k + 2 := by omega
    rw [k2, Nat.zero_mod, Nat.add_mul, c]
    refine ⟨?_, by omega⟩
    constructor
    · intro ⟨a, b⟩
      have : (k + 2) * D < (2 * Q - 1) * D := by
        rw [Nat.add_mul]
        exact b
      have := Nat.lt_of_mul_lt_mul_right this
      omega
    · intro a
      refine ⟨by omega, ?_⟩
      have : k + 2 < 2 * Q - 1 := by omega
      have := Nat.mul_lt_mul_of_pos_right this d0
      rw [Nat.add_mul] at this
      exact this
  · rw [if_neg c] at hK ⊢
    have k2 : (K + (Q : Int) - 1).toNat = k + 1 := by omega
    have xm : X % D = X - D := by
      rw [Nat.mod_eq_sub_mod x1, Nat.mod_eq_of_lt (by omega)]
    rw [k2, xm, Nat.add_mul, Nat.one_mul]
    refine ⟨?_, by omega⟩
    constructor
    · intro ⟨a, _⟩
      omega
    · intro a
      refine ⟨by omega, ?_⟩
      have : k + 1 < 2 * Q - 1 := by omega
      have h2 := Nat.mul_le_mul_right D (show k + 2 ≤ 2 * Q - 1 by omega)
      rw [Nat.add_mul] at h2
      omega
theorem number_B {τ : St} {w d p c : Nat} {A : Re} {v1 : Int64} (hdp : dpc d p c) (h : CIn τ A w) (hb : Byt τ) (hw : w < 65536) (z : A.2.2 ≠ 0) (hv1 : uN v1 = 2 ^ p - 1) : WOuC τ (f_MC_writeReal_b188 τ (nI d) (nI p) v1 (nI (2 ^ (p - 1)))) w ((numW w d p A).1, c, vB (sgW d p A.1 + (numW w d p A).2)) := by
  obtain ⟨h1, h2, h3, h4, h5⟩ := h
  obtain ⟨a1, a2, a3, a4, a5, a6, a7⟩ := allW_c hdp
  obtain ⟨-, -, -, -, b5, b6, b7, b8, -, -, b9, b10⟩ := flo_3 hdp
  have q0 := pow_pos2 (p - 1)
  have er := unitN_rng h4
  have bF := uN_lt2 (gJ τ 41 45)
  rw [h3] at bF
  have l64 : A.2.2.log2 < 64 := (Nat.log2_lt z).mpr bF
  have xe : expS A = unitN A.2.1 + (A.2.2.log2 : Int) := rfl
  have way4 : wayOf w ≤ 4 := by have := wayOf_lt w; omega
  have z3 : gJ τ 41 45 ≠ 0 := fun q => z (by rw [← h3, q]; rfl)
  have hi := (hi_bit z3 (b_MC_writeReal_192 τ) (fun t => rfl)).1
  rw [h3] at hi
  have hu := unit_B h2 h4
  have e1 : (1 : Int32).toInt = 1 := by decide
  have e2 : (2 : Int32).toInt = 2 := by decide
  have e3 : (3 : Int32).toInt = 3 := by decide
  unfold f_MC_writeReal_b188
  rw [hi, way_B h5 hw]
  try dsimp only
  generalize (if gI τ 40 45 = 0 then (1 : Int32) else gI τ 40 45) - 16446 = U at *
  have et : (nI A.2.2.log2).toInt = A.2.2.log2 := nI_toInt (by omega)
  have v6 : (U + nI A.2.2.log2).toInt = expS A := by rw [i32_addT (by omega) (by omega), hu, et, xe]
  generalize U + nI A.2.2.log2 = V6 at *
  have s2 : ((2 : Int32) - nI (2 ^ (p - 1))).toInt = 2 - ((2 ^ (p - 1) : Nat) : Int) := by rw [i32_subT (by omega) (by omega), e2, b10]
  have c1 : ((2 : Int32) - nI (2 ^ (p - 1)) ≤ V6) ↔ ¬ expS A < 2 - ((2 ^ (p - 1) : Nat) : Int) := by
    rw [Int32.le_iff_toInt_le, s2, v6]
    omega
  have mk16 : f_MC_masked τ 16 = decide (w / 16 % 2 = 1) := masked_C h5 hw 4 (by decide)
  simp only [c1, mk16]
  have pd := pow_pos2 (d - 1)
  have sg : sgW d p A.1 + 0 = sgW d p A.1 := Nat.add_zero _
  by_cases q1 : expS A < 2 - ((2 ^ (p - 1) : Nat) : Int)
  · rw [if_neg (fun h => h q1)]
    have nw : numW w d p A = ((if w / 16 % 2 = 1 then (if lossy (undX d p A) then 48 else 0) else 16), rnd (wayOf w) A.1 (undX d p A)) := by
      unfold numW
      rw [if_pos q1]
    rw [nw]
    try dsimp only
    by_cases m : w / 16 % 2 = 1
    · rw [decide_eq_true m, if_pos (rfl : true = true), if_pos m]
      have tQ1 : ((3 : Int32) - nI (2 ^ (p - 1))).toInt = 3 - ((2 ^ (p - 1) : Nat) : Int) := by rw [i32_subT (by omega) (by omega), e3, b10]
      have tQ : ((3 : Int32) - nI (2 ^ (p - 1)) - nI d).toInt = 3 - ((2 ^ (p - 1) : Nat) : Int) - d := by rw [i32_subT (by omega) (by omega), tQ1, b9]
      obtain ⟨r1, r2, r3, r4⟩ := round_B h1 h2 h4 h3 tQ (by omega) way4
      have ex : RQ A.2.2 false (unitN A.2.1) (3 - ((2 ^ (p - 1) : Nat) : Int) - d) = undX d p A := rfl
      rw [ex] at r2 r3 r4
      generalize f_MC_round τ (3 - nI (2 ^ (p - 1)) - nI d) (nI (wayOf w)) = s at *
      have ub := und_b w (show 2 ≤ d by omega) z q1
      have p63 : (2 : Nat) ^ (d - 1) ≤ 2 ^ 52 := Nat.pow_le_pow_right (by decide) (by omega)
      have e52 : (2 : Nat) ^ 52 = 4503599627370496 := rfl
      rw [Nat.mod_eq_of_lt (by omega)] at r4
      have g39 : gZ s 39 45 = A.1 := by rw [r1.2.2 39 45 (by decide) (by decide)]; exact h1
      have d1 : nI d - 1 = nI (d - 1) := pk_sub (b := 1) (by omega)
      have j1 := jshr1 r4 ub (show d - 1 ≤ 53 by omega)
      rw [d1]
      simp only [j1, g39]
      generalize hX : rnd (wayOf w) A.1 (undX d p A) = X at *
      have t18 : uN (if (if X = 2 ^ (d - 1) then true else false) = true then (1 : Int64) else 0) = if X = 2 ^ (d - 1) then 1 else 0 := by
        by_cases q : X = 2 ^ (d - 1)
        · rw [if_pos q, if_pos q]
          rfl
        · rw [if_neg q, if_neg q]
          rfl
      generalize (if (if X = 2 ^ (d - 1) then true else false) = true then (1 : Int64) else 0) = t at *
      have hV : sgW d p A.1 + X = sgW d p A.1 + ((uN t % 2 ^ p) * 2 ^ (d - 1) + uN (gJ s 42 45) % 2 ^ (d - 1)) := by
        rw [t18, r4]
        have p2 : (2 : Nat) ≤ 2 ^ p := Nat.pow_le_pow_right (n := 2) (i := 1) (by decide) (by omega)
        by_cases q : X = 2 ^ (d - 1)
        · rw [if_pos q, Nat.mod_eq_of_lt (by omega), q, Nat.mod_self]
          omega
        · rw [if_neg q, Nat.zero_mod, Nat.mod_eq_of_lt (show X < 2 ^ (d - 1) by omega)]
          omega
      obtain ⟨k1, k2, k3⟩ := pack_B hdp (Byt_114 hb (frC_42 r1)) hV
      generalize f_MC_pack s (nI d) (nI p) A.1 t (gJ s 42 45) = ν at *
      have g44 : gZ ν 44 45 = lossy (undX d p A) := by rw [k1.2.2 44 45]; exact r3
      rw [g44]
      refine ⟨?_, frD_trans (frD_C (frC_42 r1)) (frD_114 k1), k2, ?_, fun _ => k3⟩
      · cases lossy (undX d p A) <;> rfl
      · show (if lossy (undX d p A) = true then 48 else 0) < 64
        cases lossy (undX d p A) <;> decide
    · rw [decide_eq_false m, if_neg Bool.false_ne_true, if_neg m]
      refine ⟨rfl, frD_refl τ, hb, (show 16 < 64 by decide), fun q => ?_⟩
      have q' : endsW w 16 = false := q
      rw [endsW_i.2, decide_eq_false m] at q'
      cases q'
  · rw [if_pos q1]
    have tQ1 : (V6 + 1).toInt = expS A + 1 := by rw [i32_addT (by omega) (by omega), v6, e1]
    have tQ : (V6 + 1 - nI d).toInt = expS A + 1 - d := by rw [i32_subT (by omega) (by omega), tQ1, b9]
    obtain ⟨r1, r2, r3, r4⟩ := round_B h1 h2 h4 h3 tQ (by omega) way4
    have ex : RQ A.2.2 false (unitN A.2.1) (expS A + 1 - d) = norX d A := rfl
    rw [ex] at r2 r3 r4
    generalize f_MC_round τ (V6 + 1 - nI d) (nI (wayOf w)) = s at *
    obtain ⟨x1, x2⟩ := nor_b w (show 2 ≤ d by omega) z
    have p63 : (2 : Nat) ^ d ≤ 2 ^ 53 := Nat.pow_le_pow_right (by decide) (by omega)
    have e53 : (2 : Nat) ^ 53 = 9007199254740992 := rfl
    rw [Nat.mod_eq_of_lt (by omega)] at r4
    have g39 : gZ s 39 45 = A.1 := by rw [r1.2.2 39 45 (by decide) (by decide)]; exact h1
    have g38 : gI s 38 45 = nI w := by rw [r1.1 38 45]; exact h5
    have bs := Byt_114 hb (frC_42 r1)
    have j1 := jshr1 r4 x2 (show d ≤ 53 by omega)
    have mk8 : f_MC_masked s 8 = decide (w / 8 % 2 = 1) := masked_C g38 hw 3 (by decide)
    rw [mk8, way_B g38 hw, inf_M w (gZ s 39 45)]
    simp only [j1, g39]
    have nq := nP (p := p) (show 2 ≤ d by omega) (show 2 ≤ p by omega) rfl x1 x2 q1 _ rfl
    generalize hX : rnd (wayOf w) A.1 (norX d A) = X at *
    have t10 : (if (if X = 2 ^ d then true else false) = true then V6 + 1 else V6).toInt = if X = 2 ^ d then expS A + 1 else expS A := by
      by_cases q : X = 2 ^ d
      · rw [if_pos q, if_pos q]
        exact tQ1
      · rw [if_neg q, if_neg q]
        exact v6
    generalize (if (if X = 2 ^ d then true else false) = true then V6 + 1 else V6) = T10 at *
    generalize hK : (if X = 2 ^ d then expS A + 1 else expS A) = K at *
    have kb : K ≤ expS A + 1 ∧ expS A ≤ K := by
      rw [← hK]
      split <;> omega
    have c2 : (nI (2 ^ (p - 1)) ≤ T10) ↔ ¬ K < ((2 ^ (p - 1) : Nat) : Int) := by
      rw [Int32.le_iff_toInt_le, b10, t10]
      omega
    simp only [c2]
    obtain ⟨n1, n2⟩ := nq
    by_cases q2 : K < ((2 ^ (p - 1) : Nat) : Int)
    · rw [if_neg (fun h => h q2)]
      have nw : numW w d p A = ((if lossy (norX d A) then 32 else 0), norP w d p A) := by
        unfold numW
        rw [if_neg q1, if_pos (n1.mpr q2)]
      rw [nw]
      try dsimp only
      have ek : (T10 + nI (2 ^ (p - 1)) - 1).toInt = K + ((2 ^ (p - 1) : Nat) : Int) - 1 := by
        have t : (T10 + nI (2 ^ (p - 1))).toInt = K + ((2 ^ (p - 1) : Nat) : Int) := by rw [i32_addT (by omega) (by omega), t10, b10]
        rw [i32_subT (by omega) (by omega), t, e1]
      obtain ⟨k, hk⟩ : ∃ k : Nat, (K + ((2 ^ (p - 1) : Nat) : Int) - 1).toNat = k := ⟨_, rfl⟩
      have ek2 : T10 + nI (2 ^ (p - 1)) - 1 = nI k := by
        apply Int32.toInt_inj.mp
        rw [ek, nI_toInt (by omega)]
        omega
      rw [ek2]
      have t15 : uN (if (if X = 2 ^ d then true else false) = true then (0 : Int64) else gJ s 42 45) = if X = 2 ^ d then 0 else X := by
        by_cases q : X = 2 ^ d
        · rw [if_pos q, if_pos q]
          rfl
        · rw [if_neg q, if_neg q]
          exact r4
      generalize (if (if X = 2 ^ d then true else false) = true then (0 : Int64) else gJ s 42 45) = t at *
      have pp : (2 : Nat) ^ p = 2 * 2 ^ (p - 1) := by
        rw [show p = (p - 1) + 1 by omega, Nat.pow_succ, Nat.add_sub_cancel, Nat.mul_comm]
      have hV : sgW d p A.1 + norP w d p A = sgW d p A.1 + ((uN (Int32.toInt64 (nI k)) % 2 ^ p) * 2 ^ (d - 1) + uN t % 2 ^ (d - 1)) := by
        rw [uN_nI (by omega), t15, Nat.mod_eq_of_lt (show k < 2 ^ p by omega), n2, hk]
      obtain ⟨k1, k2, k3⟩ := pack_B hdp bs hV
      generalize f_MC_pack s (nI d) (nI p) A.1 (Int32.toInt64 (nI k)) t = ν at *
      have g44 : gZ ν 44 45 = lossy (norX d A) := by rw [k1.2.2 44 45]; exact r3
      rw [g44, (los_n (lossy (norX d A))).1]
      exact ⟨rfl, frD_trans (frD_C (frC_42 r1)) (frD_114 k1), k2, (los_n (lossy (norX d A))).2, fun _ => k3⟩
    · rw [if_pos q2]
      have nw : numW w d p A = ((if w / 8 % 2 = 1 then 40 else 8), if infS (wayOf w) A.1 then allW d p else allW d p - 1) := by
        unfold numW
        rw [if_neg q1, if_neg (fun q => q2 (n1.mp q))]
      rw [nw]
      try dsimp only
      by_cases m : w / 8 % 2 = 1
      · rw [decide_eq_true m, if_pos (rfl : true = true), if_pos m]
        have u1 : uN (if infS (wayOf w) A.1 = true then v1 else v1 - 1) = if infS (wayOf w) A.1 then 2 ^ p - 1 else 2 ^ p - 2 := by
          have p2 : (2 : Nat) ≤ 2 ^ p := Nat.pow_le_pow_right (n := 2) (i := 1) (by decide) (by omega)
          have p3 : (2 : Nat) ^ p ≤ 2 ^ 11 := Nat.pow_le_pow_right (by decide) (by omega)
          have e11 : (2 : Nat) ^ 11 = 2048 := rfl
          cases infS (wayOf w) A.1 with
          | true =>
            rw [if_pos (rfl : true = true), if_pos (rfl : true = true)]
            exact hv1
          | false =>
            rw [if_neg Bool.false_ne_true, if_neg Bool.false_ne_true, uN_sub, hv1, show uN 1 = 1 from rfl]
            omega
        have u2 : uN (if infS (wayOf w) A.1 = true then (0 : Int64) else -1) = if infS (wayOf w) A.1 then 0 else 18446744073709551615 := by cases infS (wayOf w) A.1 <;> rfl
        have hV : sgW d p A.1 + (if infS (wayOf w) A.1 then allW d p else allW d p - 1) = sgW d p A.1 + ((uN (if infS (wayOf w) A.1 = true then v1 else v1 - 1) % 2 ^ p) * 2 ^ (d - 1) + uN (if infS (wayOf w) A.1 = true then (0 : Int64) else -1) % 2 ^ (d - 1)) := by
          rw [u1, u2]
          congr 1
          cases infS (wayOf w) A.1 <;> rcases hdp with ⟨rfl, rfl, rfl⟩ | ⟨rfl, rfl, rfl⟩ <;> decide
        obtain ⟨k1, k2, k3⟩ := pack_B hdp bs hV
        exact ⟨rfl, frD_trans (frD_C (frC_42 r1)) (frD_114 k1), k2, (show 40 < 64 by decide), fun _ => k3⟩
      · rw [decide_eq_false m, if_neg Bool.false_ne_true, if_neg m]
        refine ⟨rfl, frD_C (frC_42 r1), bs, (show 8 < 64 by decide), fun q => ?_⟩
        have q' : endsW w 8 = false := q
        rw [endsW_i.1, decide_eq_false m] at q'
        cases q'
theorem writeReal_B {τ : St} {w d p c : Nat} {A : Re} (hdp : dpc d p c) (h : CIn τ A w) (hb : Byt τ) (hw : w < 65536) : WOuC τ (f_MC_writeReal τ (nI d) (nI p)) w ((floW w d p A).1, c, vB (floW w d p A).2) := by
  have h0 := h
  obtain ⟨h1, h2, h3, h4, h5⟩ := h0
  obtain ⟨a1, a2, a3, a4, a5, a6, a7⟩ := allW_c hdp
  obtain ⟨p1, p2, p3, -, -⟩ := p_dp hdp
  have dd : 24 ≤ d ∧ d ≤ 53 ∧ 8 ≤ p := by rcases hdp with ⟨rfl, rfl, rfl⟩ | ⟨rfl, rfl, rfl⟩ <;> decide
  have pp2 : (2 : Nat) ≤ 2 ^ p := Nat.pow_le_pow_right (n := 2) (i := 1) (by decide) (by omega)
  have pd := pow_pos2 (d - 1)
  have bF := uN_lt (gJ τ 41 45)
  rw [h3] at bF
  have up := upW_loop hdp h3
  have en := endless_B h2 h4 h3
  unfold f_MC_writeReal
  rw [p2]
  try dsimp only
  generalize hv1 : jlshl 1 (nI p) - 1 = v1 at *
  have fin0 : ∀ (V : Nat) (v : Int64), V = sgW d p A.1 + ((uN v % 2 ^ p) * 2 ^ (d - 1) + uN 0 % 2 ^ (d - 1)) → WOuC τ (0, f_MC_pack τ (nI d) (nI p) (gZ τ 39 45) v 0) w (0, c, vB V) := fun V v hV => by
    rw [h1]
    obtain ⟨k1, k2, k3⟩ := pack_B hdp hb hV
    exact ⟨rfl, frD_114 k1, k2, (show 0 < 64 by decide), fun _ => k3⟩
  have u0 : uN 0 % 2 ^ (d - 1) = 0 := Nat.zero_mod _
  have b119 : isInf A.2.1 A.2.2 = true ∨ isNil A.2.1 A.2.2 = true → WOuC τ (f_MC_writeReal_b119 τ (nI d) (nI p) v1) w ((floW w d p A).1, c, vB (floW w d p A).2) := fun q => by
    unfold f_MC_writeReal_b119 floW
    rw [en]
    try dsimp only
    cases hi : isInf A.2.1 A.2.2 with
    | true =>
      rw [if_pos (rfl : true = true), if_pos (rfl : true = true)]
      refine fin0 _ _ ?_
      rw [p1, u0, Nat.mod_eq_of_lt (by omega)]
      rfl
    | false =>
      rcases q with q | q
      · rw [hi] at q
        cases q
      · rw [if_neg Bool.false_ne_true, if_neg Bool.false_ne_true, q, if_pos (rfl : true = true)]
        refine fin0 _ _ ?_
        rw [u0, show uN 0 = 0 from rfl, Nat.zero_mod, Nat.zero_mul]
        rfl
  have inv : ∀ (V : Nat) (s : Bool) (v f : Int64), V = sgW d p s + ((uN v % 2 ^ p) * 2 ^ (d - 1) + uN f % 2 ^ (d - 1)) → WOuC τ (1, if f_MC_masked τ 1 = true then f_MC_pack τ (nI d) (nI p) s v f else τ) w (1, c, vB V) := fun V s v f hV => by
    obtain ⟨k1, k2, k3⟩ := pack_B hdp hb hV
    exact bad_B (frC_refl τ) hb h5 hw k1 k2 k3
  rw [isNum_B h2 h4, en]
  by_cases P : A.2.1 = 32767
  · rw [decide_eq_true P]
    simp only [Bool.not_true, Bool.false_eq_true, if_false]
    cases hi : isInf A.2.1 A.2.2 with
    | true =>
      rw [if_pos (rfl : true = true)]
      unfold f_MC_writeReal_b103
      rw [en, hi, if_pos (rfl : true = true)]
      exact b119 (Or.inl hi)
    | false =>
      rw [if_neg Bool.false_ne_true]
      have nan : isNan A.2.1 A.2.2 = true := by
        unfold isInf at hi
        unfold isNan
        rw [decide_eq_true P] at hi ⊢
        simp at hi ⊢
        exact hi
      have nil : isNil A.2.1 A.2.2 = false := by
        unfold isNil
        rw [decide_eq_true P]
        rfl
      unfold floW
      rw [hi, nil, nan]
      simp only [Bool.false_eq_true, if_false, if_true]
      generalize (lpn (b_MC_writeReal_33 τ (nI d)) (upf (nI d - 1) 0) (0, 0)).2 = U at *
      have up' : uN U = upW d A := up
      have ul : upW d A < 2 ^ (d - 1) := Nat.mod_lt _ pd
      have zz : (U = 0) ↔ upW d A = 0 := by rw [uN_eq0, up']
      rw [h1]
      simp only [zz]
      refine inv _ _ _ _ ?_
      have ut : uN (if upW d A = 0 then 1 else U) = if upW d A = 0 then 1 else upW d A := by
        by_cases q : upW d A = 0
        · rw [if_pos q, if_pos q]
          rfl
        · rw [if_neg q, if_neg q]
          exact up'
      have ub : (if upW d A = 0 then 1 else upW d A) < 2 ^ (d - 1) := by
        split
        · omega
        · exact ul
      rw [ut, p1, Nat.mod_eq_of_lt ub, Nat.mod_eq_of_lt (show 2 ^ p - 1 < 2 ^ p by omega)]
      rfl
  · rw [decide_eq_false P]
    simp only [Bool.not_false, if_true]
    have hi : isInf A.2.1 A.2.2 = false := by
      unfold isInf
      rw [decide_eq_false P]
      rfl
    have nan : isNan A.2.1 A.2.2 = false := by
      unfold isNan
      rw [decide_eq_false P]
      rfl
    have cz : (gJ τ 41 45 = 0) ↔ A.2.2 = 0 := by rw [uN_eq0, h3]
    have cp : (gI τ 40 45 ≤ 0) ↔ A.2.1 = 0 := by
      rw [h2]
      have : (nI A.2.1 ≤ nI 0) ↔ A.2.1 ≤ 0 := nI_leI (by omega) (by decide)
      rw [show (0 : Int32) = nI 0 from rfl, this]
      omega
    have cb : (jlshr (gJ τ 41 45) 63 &&& 1 = 0) ↔ A.2.2 < 9223372036854775808 := by
      rw [bit0 (gJ τ 41 45) (y := 63) 63 rfl (by decide), h3, ntb]
      have e63 : (2 : Nat) ^ 63 = 9223372036854775808 := rfl
      rw [e63]
      constructor
      · intro q
        have := of_decide_eq_false q
        omega
      · intro q
        exact decide_eq_false (by omega)
    unfold f_MC_writeReal_b103
    rw [en, hi, if_neg Bool.false_ne_true]
    simp only [cz, cp, cb]
    by_cases z : A.2.2 = 0
    · rw [if_pos z]
      refine b119 (Or.inr ?_)
      unfold isNil
      rw [decide_eq_false P, decide_eq_true z]
      rfl
    · rw [if_neg z]
      have nil : isNil A.2.1 A.2.2 = false := by
        unfold isNil
        rw [decide_eq_false z, Bool.and_false]
      have num := number_B hdp h hb hw z p1
      have fw : isUnn A.2.1 A.2.2 = false → floW w d p A = ((numW w d p A).1, sgW d p A.1 + (numW w d p A).2) := fun q => by
        unfold floW
        rw [hi, nil, nan, q]
        simp only [Bool.false_eq_true, if_false]
      by_cases p0 : A.2.1 = 0
      · rw [if_pos p0, fw (by unfold isUnn; rw [p0]; simp)]
        exact num
      · rw [if_neg p0]
        by_cases f0 : A.2.2 < 9223372036854775808
        · rw [if_pos f0]
          have un : isUnn A.2.1 A.2.2 = true := by
            unfold isUnn
            rw [decide_eq_true (show 0 < A.2.2 by omega), decide_eq_true f0, decide_eq_true (show 0 < A.2.1 by omega), decide_eq_true (show A.2.1 < 32767 by omega)]
            rfl
          have fw1 : floW w d p A = (1, sgW d p true + (allW d p + 2 ^ (d - 2))) := by
            unfold floW
            rw [hi, nil, nan, un]
            simp only [Bool.false_eq_true, if_false, if_true]
          rw [fw1]
          refine inv _ _ _ _ ?_
          rw [p1, p3, Nat.mod_eq_of_lt (show 2 ^ p - 1 < 2 ^ p by omega), Nat.mod_eq_of_lt (show 2 ^ (d - 2) < 2 ^ (d - 1) by omega)]
          rfl
        · rw [if_neg f0, fw (by unfold isUnn; rw [decide_eq_false f0]; simp)]
          exact num
