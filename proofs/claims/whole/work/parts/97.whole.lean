/-! whole numbers -/
theorem SPz_scale (w n : Nat) (m : Bool) (N : Nat) (s : Bool) (e : Int) (j : Nat) : SPz w n m (N * 2 ^ j) s (e - j) = SPz w n m N s e := by
  by_cases h0 : N = 0
  · subst h0
    unfold SPz
    simp
  · obtain ⟨t, lg⟩ := Lg_ex (Nat.pos_of_ne_zero h0)
    rw [SPz_log lg, SPz_log (Lg_mul lg j)]
    have e1 : e - (j : Int) + ((t + j : Nat) : Int) = e + t := by omega
    have e2 : RQ (N * 2 ^ j) s (e - j) = RQ N s e := by
      funext q
      exact RQ_scale N s e q j
    rw [e1, e2]
theorem Loaded_Size {σ : St} {o F : Nat} {e : Int} (h : Loaded σ o F e) (he : -38000 ≤ e ∧ e ≤ 38000) : SizeIs σ o F false e := by
  rcases h.2.2 with ⟨h1, h2, h3⟩ | ⟨h1, j, h2, h3, h4⟩
  · exact Or.inl ⟨h1, h2, h.1⟩
  · have hF : F ≠ 0 := (Loaded_F h).mpr h1
    refine Or.inr ⟨hF, h1, by omega, ?_⟩
    rw [h.1, h.2.1]
    refine Rep_exact (j := j + 64) false ?_ (by omega) ?_
    · rw [h3, show uN 0 = 0 from rfl, Nat.pow_add, Nat.add_zero, Nat.mul_assoc]
    · exact Lg127 h1
def wholeS (w : Nat) (A : Re) : Nat × Ra :=
  (setS w A A false).getD
    (if isInf A.2.1 A.2.2 then (denS A A, asRa A)
     else (denS A A ||| (if lossy (RQ A.2.2 false (unitN A.2.1) 0) then 32 else 0) ||| (SPz w 64 A.1 (rnd (wayOf w) A.1 (RQ A.2.2 false (unitN A.2.1) 0)) false 0).1, A.1, (SPz w 64 A.1 (rnd (wayOf w) A.1 (RQ A.2.2 false (unitN A.2.1) 0)) false 0).2))
theorem Outc_set2 {σ ρ : St} {w t D a4 T : Nat} {m : Bool} {p : Int32} {f : Int64} {P : Int} {F : Nat} (hf : frR a4 σ ρ) (ht : gI ρ 7 3 = nI (t ||| D)) (htt : t < 64) (hD : D < 64) (hT : T < 64) (hp : p.toInt = P) (hF : uN f = F) (hP : 0 ≤ P ∧ P ≤ 32767) : Outc σ (f_Real_set (f_Ctl_tell ρ (nI T)) a4 m p f) w t a4 (D ||| T, m, P, F) := by
  have o := Outc_set (w := w) (m := m) hf ht (or_lt64 htt hD) hT hp hF hP
  refine ⟨o.1, ?_, (or_lt64 hD hT : D ||| T < 64), fun q => o.2.2.2 ?_⟩
  · rw [o.2.1]
    show nI (t ||| D ||| T) = nI (t ||| (D ||| T))
    rw [Nat.or_assoc]
  · have q' : endsN w (D ||| T) = false := q
    rw [endsN_or] at q'
    exact (Bool.or_eq_false_iff.mp q').2
theorem Outc_take {σ ρ : St} {w t D a4 x : Nat} {A : Re} (hf : frR a4 σ ρ) (ht : gI ρ 7 3 = nI (t ||| D)) (hD : D < 64) (hx : RealIs ρ x A.1 A.2.1 A.2.2) : Outc σ (f_Real_take ρ a4 x) w t a4 (D, asRa A) := by
  rw [take_set, hx.1]
  obtain ⟨g1, g2, g3, g4, g5⟩ := set_get ρ a4 A.1 (gI ρ 16 x) (gJ ρ 17 x)
  refine ⟨frR_trans hf (frR_set _ _ _ _ _), by rw [g4]; exact ht, hD, fun _ => ⟨g1, ?_, ?_, ?_, ?_⟩⟩
  · rw [g2, hx.2.1]
    exact nI_toInt (by have := hx.2.2.2; omega)
  · rw [g3]
    exact hx.2.2.1
  · show (0 : Int) ≤ (A.2.1 : Int)
    omega
  · show (A.2.1 : Int) ≤ 32767
    have := hx.2.2.2
    omega
theorem RQ_zero (e q : Int) : RQ 0 false e q = (0, false, false) := by
  unfold RQ hb rsb
  split <;> simp
/-- a size of nothing, rounded -/
theorem round_zero (σ : St) (o pl way : Nat) (m : Bool) (hpl : 128 < pl) (hp2 : pl < 2 ^ 30) (h8 : gJ σ 8 o = 0) (h9 : gJ σ 9 o = 0) (h10 : gZ σ 10 o = false) (hw : way ≤ 4) : ∃ K : Int64, f_Size_round σ o (nI pl) (nI way) m = sZ (sJ σ 12 o K) 13 o false ∧ uN K = 0 := by
  have n64 : ¬ nI pl ≤ 64 := nI_ge (a := 64) (by omega) (by omega)
  have p128 : (128 : Int32) < nI pl := nI_lt (a := 128) (by omega) (by omega)
  have q128 : (128 : Int32) ≤ nI pl := nI_le (a := 128) (by omega) (by omega)
  have g9 : ∀ v, gJ (sJ σ 12 o v) 9 o = 0 := fun v => by simp [gJ_sJ, h9]
  have g8 : ∀ v, gJ (sJ σ 12 o v) 8 o = 0 := fun v => by simp [gJ_sJ, h8]
  have rh : rhead σ o (nI pl) = (false, jlushr 0 1, sJ σ 12 o 0) := by
    unfold rhead
    simp only [n64, if_false, g9, g8, h10, Bool.false_eq_true, if_true, p128, q128, sJ_sJ]
  have u : uN (jlushr 0 1) = 0 := by decide
  obtain ⟨K, c1, c2⟩ := rtail_eq σ o false (jlushr 0 1) 0 way m hw (0, false, false) rfl (by rw [u]; decide) (by rw [u]; decide)
  refine ⟨K, ?_, ?_⟩
  · rw [round_eq, rh, c1]
    rfl
  · rw [c2]
    unfold rnd upS lossy
    simp
theorem neg_I {v : Int32} {e : Int} {n : Nat} (h : v.toInt = e) (hn : e = -(n : Int)) (hb : n < 2 ^ 30) : -v = nI n := by
  apply Int32.toInt_inj.mp
  have e1 : (nI n).toInt = n := nI_toInt (by omega)
  rw [Int32.toInt_neg, h, e1, Int.bmod_eq_of_le (by omega) (by omega)]
  omega
theorem ge_m64 {v : Int32} {e : Int} (h : v.toInt = e) : ((-64 : Int32) ≤ v) ↔ -64 ≤ e := by
  rw [Int32.le_iff_toInt_le, h, show (-64 : Int32).toInt = -64 by decide]
theorem makeWhole_C {σ : St} {w t a a4 : Nat} {A : Re} (hs : gI σ 6 3 = nI w) (hw : w < 65536) (ht : gI σ 7 3 = nI t) (htt : t < 64) (hne : endsN w t = false) (ha : RealIs σ a A.1 A.2.1 A.2.2) (n1 : a ≠ a4) : Outc σ (f_Steps_makeWhole σ a a4) w t a4 (wholeS w A) := by
  unfold f_Steps_makeWhole wholeS
  rcases settle_C (a4 := a4) (cn := false) hs hw ht htt hne ha ha with ⟨R, τ, e1, e2, e3⟩ | ⟨e1, e2, d2, en, nn, -⟩
  · rw [e1, e2]
    simp only [if_true]
    exact e3
  · rw [e1, e2]
    simp only [Bool.false_eq_true, if_false]
    show Outc σ _ w t a4 (if isInf A.2.1 A.2.2 then _ else _)
    have f1 : frR a4 σ (f_Ctl_tell σ (nI (denS A A))) := frR_tell _ _ _
    have t1 : gI (f_Ctl_tell σ (nI (denS A A))) 7 3 = nI (t ||| denS A A) := by rw [tell_7, ht, nI_or _ _ (by omega) (by omega)]
    have s1 : gI (f_Ctl_tell σ (nI (denS A A))) 6 3 = nI w := hs
    have ra := RealIs_frR ha f1 n1
    have dl : denS A A < 64 := by omega
    rw [inf_N ra]
    generalize f_Ctl_tell σ (nI (denS A A)) = ρ at *
    by_cases hi : isInf A.2.1 A.2.2 = true
    · rw [if_pos hi, if_pos hi]
      exact Outc_take f1 t1 dl ra
    · rw [if_neg hi, if_neg hi]
      obtain ⟨h, u, c1, c2⟩ := load_spec ρ 6 a A.2.1 ra.2.2.2 ra.2.1
      rw [ra.2.2.1] at c2
      rw [c1]
      have er := unitN_rng ha.2.2.2
      have fs := frS_szm ρ 6 h 0 false u
      have rs := RealIs_fr ra fs
      have ss : gI (szm ρ 6 h 0 false u) 6 3 = nI w := by rw [fs.1 6 3 (by decide)]; exact s1
      have ts : gI (szm ρ 6 h 0 false u) 7 3 = nI (t ||| denS A A) := by rw [fs.1 7 3 (by decide)]; exact t1
      have bF := uN_lt2 (gJ σ 17 a)
      rw [ha.2.2.1] at bF
      generalize szm ρ 6 h 0 false u = s at *
      have ur := unit_rng c2 er
      have way4 : wayOf w ≤ 4 := by have := wayOf_lt w; omega
      -- the end: a whole number is made
      have fin : ∀ (s2 : St) (N : Nat) (e : Int) (L : Nat), frR a4 σ s2 → gI s2 6 3 = nI w → gI s2 7 3 = nI (t ||| (denS A A ||| L)) → L < 64 → gZ s2 15 a = A.1 → SizeIs s2 6 N false e → SPz w 64 A.1 N false e = SPz w 64 A.1 (rnd (wayOf w) A.1 (RQ A.2.2 false (unitN A.2.1) 0)) false 0 → Outc σ (f_Maker_make s2 11 6 (gZ s2 15 a) 64 a4) w t a4 (denS A A ||| L ||| (SPz w 64 A.1 (rnd (wayOf w) A.1 (RQ A.2.2 false (unitN A.2.1) 0)) false 0).1, A.1, (SPz w 64 A.1 (rnd (wayOf w) A.1 (RQ A.2.2 false (unitN A.2.1) 0)) false 0).2) := fun s2 N e L g1 g2 g3 g4 g5 g6 g7 => by
        obtain ⟨σ2, pw, F, m1, m2, m3, m4⟩ := class_make s2 11 6 A.1 64 a4 w N false e g2 hw (Or.inr (Or.inr rfl)) g6
        obtain ⟨r1, r2, r3, r4⟩ := SPz_rng (w := w) (m := A.1) (n := 64) (Or.inr (Or.inr rfl)) g6
        rw [g7] at m2 m3 m4 r1 r2 r3 r4
        rw [g5, show (64 : Int32) = nI 64 from rfl, m2]
        have t2 : gI σ2 7 3 = nI (t ||| (denS A A ||| L)) := by rw [m1.1 7 3 (by decide)]; exact g3
        exact Outc_set2 (frR_trans g1 (frR_S m1)) t2 htt (or_lt64 dl g4) r1 m3 m4 ⟨r3, r4⟩
      have cu := ge_m64 (v := gI s 11 6) rfl
      by_cases c : (-64 : Int32) ≤ gI s 11 6
      · rw [if_pos c]
        have c' := cu.mp c
        -- it is whole already
        have hF : A.2.2 ≠ 0 := fun z => by
          rcases c2.2.2 with ⟨z1, z2, z3⟩ | ⟨z1, -⟩
          · omega
          · exact absurd z ((Loaded_F c2).mpr z1)
        rcases c2.2.2 with ⟨z1, z2, z3⟩ | ⟨z1, j, z2, z3, z4⟩
        · exact absurd z1 hF
        · obtain ⟨d, hd⟩ : ∃ d : Nat, unitN A.2.1 = 0 + d := ⟨(unitN A.2.1).toNat, by omega⟩
          have x : RQ A.2.2 false (unitN A.2.1) 0 = (A.2.2 * 2 ^ d, false, false) := by
            by_cases d0 : d = 0
            · subst d0
              rw [RQ_ge 0 (by omega)]
              unfold hb rsb
              simp [Nat.mod_one]
            · exact RQ_lt d hd (by omega)
          have rn : rnd (wayOf w) A.1 (RQ A.2.2 false (unitN A.2.1) 0) = A.2.2 * 2 ^ d := by
            rw [x]
            unfold rnd upS lossy
            simp
          have ly : lossy (RQ A.2.2 false (unitN A.2.1) 0) = false := by rw [x]; rfl
          have g := fin s A.2.2 (unitN A.2.1) 0 (frR_trans f1 (frR_S fs)) ss (by rw [Nat.or_zero]; exact ts) (by decide) rs.1 (Loaded_Size c2 ⟨by omega, by omega⟩) (by
            rw [rn]
            have := SPz_scale w 64 A.1 A.2.2 false (unitN A.2.1) d
            have e0 : unitN A.2.1 - (d : Int) = 0 := by omega
            rw [e0] at this
            exact this.symm)
          rw [ly]
          exact g
      · rw [if_neg c]
        have c' : ¬ -64 ≤ (gI s 11 6).toInt := fun q => c (cu.mpr q)
        obtain ⟨pl, hpl⟩ : ∃ pl : Nat, (gI s 11 6).toInt = -(pl : Int) := ⟨(-(gI s 11 6).toInt).toNat, by omega⟩
        have ng := neg_I rfl hpl (by omega)
        rw [ng, rounding_eq ss hw, rs.1]
        obtain ⟨K, k1, k2⟩ : ∃ K : Int64, f_Size_round s 6 (nI pl) (nI (wayOf w)) A.1 = sZ (sJ s 12 6 K) 13 6 (lossy (RQ A.2.2 false (unitN A.2.1) 0)) ∧ uN K = rnd (wayOf w) A.1 (RQ A.2.2 false (unitN A.2.1) 0) := by
          rcases c2.2.2 with ⟨z1, z2, z3⟩ | ⟨z1, j, z2, z3, z4⟩
          · obtain ⟨K, k1, k2⟩ := round_zero s 6 pl (wayOf w) A.1 (by omega) (by omega) z2 c2.1 c2.2.1 way4
            refine ⟨K, ?_, ?_⟩
            · rw [k1, z1, RQ_zero]
              rfl
            · rw [k2, z1, RQ_zero]
              unfold rnd upS lossy
              simp
          · obtain ⟨K, k1, k2⟩ := round_spec s 6 pl (wayOf w) A.1 (by omega) (by omega) z1 way4 _ rfl
            have ex : (uN (gJ s 8 6) * 2 ^ 64 + uN (gJ s 9 6)) = A.2.2 * 2 ^ (j + 64) := by
              rw [c2.1, show uN 0 = 0 from rfl, z3, Nat.add_zero, Nat.pow_add, Nat.mul_assoc]
            have x : ((uN (gJ s 8 6) * 2 ^ 64 + uN (gJ s 9 6)) / 2 ^ pl, hb (uN (gJ s 8 6) * 2 ^ 64 + uN (gJ s 9 6)) pl, rsb (uN (gJ s 8 6) * 2 ^ 64 + uN (gJ s 9 6)) pl (gZ s 10 6)) = RQ A.2.2 false (unitN A.2.1) 0 := by
              rw [c2.2.1, ← RQ_ge (e := (gI s 11 6).toInt) (q := 0) pl (by omega), ex]
              have := RQ_scale A.2.2 false (unitN A.2.1) 0 (j + 64)
              have eu : unitN A.2.1 - ((j + 64 : Nat) : Int) = (gI s 11 6).toInt := by omega
              rw [eu] at this
              exact this
            rw [x] at k1 k2
            refine ⟨K, k1, ?_⟩
            rw [k2]
            apply Nat.mod_eq_of_lt
            have hr := (rnd_le (wayOf w) A.1 (RQ A.2.2 false (unitN A.2.1) 0)).2
            have hx : (RQ A.2.2 false (unitN A.2.1) 0).1 < 2 ^ 63 := by
              rw [← x]
              show (uN (gJ s 8 6) * 2 ^ 64 + uN (gJ s 9 6)) / 2 ^ pl < 2 ^ 63
              rw [Nat.div_lt_iff_lt_mul (pow_pos2 pl), ← Nat.pow_add]
              exact Nat.lt_of_lt_of_le (Lg127 z1).2 (Nat.pow_le_pow_right (by decide) (by omega))
            omega
        rw [k1]
        have g13 : gZ (sZ (sJ s 12 6 K) 13 6 (lossy (RQ A.2.2 false (unitN A.2.1) 0))) 13 6 = lossy (RQ A.2.2 false (unitN A.2.1) 0) := by simp [gZ_sZ]
        rw [g13]
        obtain ⟨L, hL, hL2⟩ : ∃ L : Nat, L = (if lossy (RQ A.2.2 false (unitN A.2.1) 0) then 32 else 0) ∧ L < 64 := ⟨_, rfl, by split <;> decide⟩
        have tl : (if lossy (RQ A.2.2 false (unitN A.2.1) 0) = true then (32 : Int32) else 0) = nI L := by
          rw [hL]
          split <;> rfl
        rw [tl, ← hL]
        have f2 : frS s (sZ (sJ s 12 6 K) 13 6 (lossy (RQ A.2.2 false (unitN A.2.1) 0))) := frS_rd _ _ _ _
        have g12 : gJ (f_Ctl_tell (sZ (sJ s 12 6 K) 13 6 (lossy (RQ A.2.2 false (unitN A.2.1) 0))) (nI L)) 12 6 = K := by
          show gJ (sZ (sJ s 12 6 K) 13 6 _) 12 6 = K
          simp [gJ_sZ, gJ_sJ]
        rw [g12]
        generalize hs2 : sZ (sJ s 12 6 K) 13 6 (lossy (RQ A.2.2 false (unitN A.2.1) 0)) = s2 at *
        have t2 : gI (f_Ctl_tell s2 (nI L)) 7 3 = nI (t ||| (denS A A ||| L)) := by
          rw [tell_7, f2.1 7 3 (by decide), ts, nI_or _ _ (by have := or_lt64 htt dl; omega) (by omega), Nat.or_assoc]
        have st2 : gI (f_Ctl_tell s2 (nI L)) 6 3 = nI w := by
          rw [tell_6, f2.1 6 3 (by decide)]
          exact ss
        have m2 : gZ (f_Ctl_tell s2 (nI L)) 15 a = A.1 := by
          show gZ s2 15 a = A.1
          rw [f2.2.2 15 a (by decide) (by decide)]
          exact rs.1
        have fr2 : frR a4 σ (f_Ctl_tell s2 (nI L)) := frR_trans f1 (frR_trans (frR_S fs) (frR_trans (frR_S f2) (frR_tell _ _ _)))
        generalize f_Ctl_tell s2 (nI L) = s3 at *
        obtain ⟨h3, u3, l1, l2⟩ := loadTimes_spec s3 6 K 0 (by decide)
        have fl := frS_szm s3 6 h3 0 false u3
        rw [l1]
        have ld : Loaded (szm s3 6 h3 0 false u3) 6 (uN K) 0 := by
          refine ⟨szm_9 _ _ _ _ _ _, szm_10 _ _ _ _ _ _, ?_⟩
          rw [szm_8, szm_11]
          rcases l2 with ⟨y1, y2, y3⟩ | ⟨y1, j, y2, y3, y4⟩
          · exact Or.inl ⟨uN_eq0.mp y1, y2, by rw [y3]; decide⟩
          · exact Or.inr ⟨y1, j, y2, y3, by rw [y4]; rfl⟩
        rw [k2] at ld
        refine fin _ _ 0 L (frR_trans fr2 (frR_S fl)) (by rw [fl.1 6 3 (by decide)]; exact st2) (by rw [fl.1 7 3 (by decide)]; exact t2) hL2 (by rw [fl.2.2 15 a (by decide) (by decide)]; exact m2) (Loaded_Size ld (by decide)) rfl
