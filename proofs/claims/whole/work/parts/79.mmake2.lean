theorem make_M {τ : St} {n N w : Nat} {u : Int} {t0 : Nat} (h : RowIs τ n N) (hN : N ≠ 0) (hwd : gI τ 16 35 = nI w) (hw : w < 65536) (hu : (gI τ 19 35).toInt = u) (hub : -38000 ≤ u ∧ u ≤ 38000) (hkb : -37000 ≤ u + N.log2 ∧ u + N.log2 ≤ 37000) (ht : gI τ 21 35 = nI t0) (sg : Bool) (R : Nat × Int × Nat) (hR : R = SPz w (digitsOf w) sg N (gZ τ 20 35) u) :
    ∃ (b : Bool) (pw : Int32) (F : Int64), f_MO_make τ sg = mkst τ b (t0 + R.1) sg pw F ∧ pw.toInt = R.2.1 ∧ uN F = R.2.2 := by
  unfold SPz at hR
  rw [if_neg hN] at hR
  rcases highest_M h with ⟨z, -⟩ | ⟨-, hh, hlt⟩
  · exact absurd z hN
  have lg : Lg N N.log2 := ⟨(Nat.le_log2 hN).mp (Nat.le_refl _), (Nat.log2_lt hN).mp (Nat.lt_succ_self _)⟩
  have hnn := h.2.1
  have nd := nd3 w
  have dg := digits_M hwd hw
  generalize digitsOf w = d at *
  generalize N.log2 = t at *
  have t33 : t < 33000 := by omega
  have d64 : 1 ≤ d ∧ d ≤ 64 := by rcases nd with q | q | q <;> omega
  have v2 := q_sum hu hub t33
  generalize hV : gI τ 19 35 + nI t = V at *
  have q0 := q_tiny d64.2
  generalize hQ0 : (-16381 : Int32) - nI d = Q0 at *
  generalize hk : u + (t : Int) = k at *
  have cT := le_m16382 v2
  have m16 : (nI w &&& 16 = 0) ↔ ¬ w / 16 % 2 = 1 := nI_bit hw (i := 4) (by decide)
  by_cases tm : k < -16382 ∧ w / 16 % 2 = 1
  · -- below the least power, and masked
    obtain ⟨W, c1, c2⟩ := times_M h hwd hw hu ⟨by omega, by omega⟩ Q0 ⟨by omega, by omega⟩ sg _ rfl
    rw [q0] at c1 c2
    have S := hR.trans (SP_1 tm.1 tm.2 _ rfl)
    have x1 : (RQ N (gZ τ 20 35) u (-16381 - d)).1 < 2 ^ (d - 1) := by
      rw [RQ_1]
      exact shZ_lt lg _ (by omega)
    have hr := (rnd_le (wayOf w) sg (RQ N (gZ τ 20 35) u (-16381 - d))).2
    clear hR
    generalize RQ N (gZ τ 20 35) u (-16381 - d) = x at *
    have X1 : rnd (wayOf w) sg x ≤ 2 ^ (d - 1) := Nat.le_trans hr x1
    have X64 : rnd (wayOf w) sg x < 2 ^ 64 := Nat.lt_of_le_of_lt X1 (Nat.pow_lt_pow_right (by decide) (by omega))
    rw [Nat.mod_eq_of_lt X64] at c2
    rw [← c2] at X1
    obtain ⟨pw, F, p1, p2, p3⟩ := put_tiny (τ := sI (sZ τ 25 35 (lossy x)) 21 35 (nI (t0 + R.1))) (sg := sg) (W := W) nd q0 X1
    refine ⟨lossy x, pw, F, ?_, ?_, ?_⟩
    · unfold mkst
      rw [← p1]
      have c3 : ¬ ((-16382 : Int32) ≤ V) := fun q => (cT.mp q) tm.1
      have c4 : ¬ (nI w &&& 16 = 0) := fun q => (m16.mp q) tm.2
      have g25 : gZ (sZ τ 25 35 (lossy x)) 25 35 = lossy x := by simp [gZ_sZ]
      have g21 : gI (sZ τ 25 35 (lossy x)) 21 35 = nI t0 := ht
      have R1 : R.1 = (if lossy x then 48 else 0) := by rw [S]
      have tl : (if lossy x = true then nI t0 + 16 + 32 else nI t0) = nI (t0 + R.1) := by
        rw [R1]
        cases lossy x
        · rfl
        · show nI t0 + nI 16 + nI 32 = nI (t0 + 48)
          rw [nI_add, nI_add]
      unfold f_MO_make
      simp only [hh, hV, dg, c3, if_false, if_true, hwd, c4, hQ0, c1, g25, g21, tl]
    · rw [p2, c2, S]
    · rw [p3, c2, S]
  · have q1 := q_norm v2 ⟨by omega, by omega⟩ d64.2
    generalize hQ : V + 1 - nI d = Q at *
    obtain ⟨W, c1, c2⟩ := times_M h hwd hw hu ⟨by omega, by omega⟩ Q ⟨by omega, by omega⟩ sg _ rfl
    rw [q1] at c1 c2
    have x1 : Lg (RQ N (gZ τ 20 35) u (k + 1 - d)).1 (d - 1) := by
      rw [RQ_1]
      have := shZ_Lg lg (n := d) d64.1
      have e : (t : Int) + 1 - d = k + 1 - d - u := by omega
      rw [e] at this
      exact this
    have hr := rnd_le (wayOf w) sg (RQ N (gZ τ 20 35) u (k + 1 - d))
    have S2 := fun h1 h2 => hR.trans (SP_2 h1 h2 (RQ N (gZ τ 20 35) u (k + 1 - d)) rfl)
    have S3 := fun h1 h2 => hR.trans (SP_3 h1 (RQ N (gZ τ 20 35) u (k + 1 - d)) rfl h2)
    have S4 := fun h1 h2 h3 => hR.trans (SP_4 h1 (RQ N (gZ τ 20 35) u (k + 1 - d)) rfl h2 h3)
    have S5 := fun h1 h2 h3 => hR.trans (SP_5 h1 (RQ N (gZ τ 20 35) u (k + 1 - d)) rfl h2 h3)
    clear hR
    generalize RQ N (gZ τ 20 35) u (k + 1 - d) = x at *
    generalize hX : rnd (wayOf w) sg x = X at *
    have xh := x1.2
    have dd : d - 1 + 1 = d := by omega
    rw [dd] at xh
    have X1 : 2 ^ (d - 1) ≤ X ∧ X ≤ 2 ^ d := ⟨Nat.le_trans x1.1 hr.1, Nat.le_trans hr.2 xh⟩
    obtain ⟨pw, F, T, b1, b2⟩ := b104_M (tn := decide (k < -16382)) hwd hw nd v2 ⟨by omega, by omega⟩ hQ c1 c2 X1 ht rfl
    have mk : f_MO_make τ sg = f_MO_make_b104 τ sg V (nI d) (decide (k < -16382)) := by
      unfold f_MO_make
      by_cases ht1 : k < -16382
      · have c3 : ¬ ((-16382 : Int32) ≤ V) := fun q => (cT.mp q) ht1
        have c4 : nI w &&& 16 = 0 := m16.mpr (fun q => tm ⟨ht1, q⟩)
        simp only [hh, hV, dg, c3, if_false, if_true, hwd, c4]
        rw [decide_eq_true ht1]
      · have c3 : ((-16382 : Int32) ≤ V) := cT.mpr ht1
        simp only [hh, hV, dg, c3, if_true, Bool.false_eq_true, if_false]
        rw [decide_eq_false ht1]
    rw [← mk] at b1
    rcases b2 with ⟨e1, e2, e3, e4⟩ | ⟨e0, e1, e2, e3, e4⟩ | ⟨e0, e1, e5, e2, e3, e4⟩ | ⟨e0, e1, e5, e2, e3, e4⟩
    · have S := S2 e1 (fun q => tm ⟨e1, q⟩)
      refine ⟨lossy x, pw, F, ?_, ?_, ?_⟩
      · rw [b1, S, e2]
      · rw [e3, S]
      · rw [e4, S]
    · have S := S3 e0 e1
      refine ⟨lossy x, pw, F, ?_, ?_, ?_⟩
      · rw [b1, S, e2]
      · rw [e3, S]
      · rw [e4, S]
    · have S := S4 e0 e1 e5
      refine ⟨lossy x, pw, F, ?_, ?_, ?_⟩
      · rw [b1, S, e2]
      · rw [e3, S]
      · rw [e4, S]
    · have S := S5 e0 e1 e5
      refine ⟨lossy x, pw, F, ?_, ?_, ?_⟩
      · rw [b1, S, e2]
      · rw [e3, S]
      · rw [e4, S]
