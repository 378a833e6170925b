/-! the reference's root: digit by digit -/
theorem sub_sub64 (a b c : Int64) : a - b - c = a - (b + c) := by
  apply uN_inj
  have ha := uN_lt a
  have hb := uN_lt b
  have hc := uN_lt c
  rw [uN_sub, uN_sub, uN_sub, uN_add]
  omega
theorem mroot_st (ob : Bool) (K : Int32) (k : Nat) (c0 : ¬ K < 0) (jK : jat K = k) (τ : St) (n lo : Int32) (r : Nat → Bool) (rt rH lw hg tw v6 v7 v8 v9 h2 l2 : Int64) (two : Int32)
    (e5 : (lpn (b_MO_root_90 ob (K, rt, rH, lw, hg, rowst τ n lo false r)) (dnf 1) (1, 0)).2 = two) (et : Int32.toInt64 two = tw)
    (e6 : jlshl hg 2 ||| jlushr lw 62 = v6) (e7 : jlshl lw 2 ||| tw = v7) (e8 : jlshl rH 2 ||| jlushr rt 62 = v8) (e9 : jlshl rt 2 ||| 1 = v9) (ea : jlshl rH 1 ||| jlushr rt 63 = h2) (eb : jlshl rt 1 = l2) :
    ((if v6 = v8 then f_MO_below v7 v9 = false else f_MO_below v6 v8 = false) → b_MO_root_79 ob (K, rt, rH, lw, hg, rowst τ n lo false r) = (true, (K + (-1), l2 ||| 1, h2, v7 - v9, v6 - (v8 + (if f_Size_isBelow v7 v9 = true then 1 else 0)), rowst τ n lo false (fun o => if o = k then true else r o)))) ∧
    (¬ (if v6 = v8 then f_MO_below v7 v9 = false else f_MO_below v6 v8 = false) → b_MO_root_79 ob (K, rt, rH, lw, hg, rowst τ n lo false r) = (true, (K + (-1), l2 ||| 0, h2, v7, v6, rowst τ n lo false (fun o => if o = k then false else r o)))) := by
  have st := fun v => rowst_st τ n lo false r k v
  have bl : f_Size_isBelow v7 v9 = f_MO_below v7 v9 := by rw [isBelow_eq, below_eq]
  constructor
  · intro q
    have t9 : (if v6 = v8 then if f_MO_below v7 v9 = true then false else true else if f_MO_below v6 v8 = true then false else true) = true := by
      by_cases c : v6 = v8
      · rw [if_pos c] at q ⊢
        rw [q]
        rfl
      · rw [if_neg c] at q ⊢
        rw [q]
        rfl
    unfold b_MO_root_79
    simp only [c0, if_false, e5, et, e6, e7, e8, e9, t9, if_true, ea, eb, jK, st, sub_sub64, bl]
  · intro q
    have t9 : (if v6 = v8 then if f_MO_below v7 v9 = true then false else true else if f_MO_below v6 v8 = true then false else true) = false := by
      by_cases c : v6 = v8
      · rw [if_pos c] at q ⊢
        have : f_MO_below v7 v9 = true := by simpa using q
        rw [this]
        rfl
      · rw [if_neg c] at q ⊢
        have : f_MO_below v6 v8 = true := by simpa using q
        rw [this]
        rfl
    unfold b_MO_root_79
    simp only [c0, if_false, e5, et, e6, e7, e8, e9, t9, Bool.false_eq_true, ea, eb, jK, st]
theorem two64 {n : Nat} (h : n < 4) : uN (Int32.toInt64 (nI n)) = n := by
  rcases (show n = 0 ∨ n = 1 ∨ n = 2 ∨ n = 3 by omega) with rfl | rfl | rfl | rfl <;> rfl
theorem mroot_step (ob : Bool) (k : Nat) (hk : k < 104) (τ : St) (lo : Int32) (r : Nat → Bool) (rt rH lw hg : Int64) (N R rest : Nat) (hN : uN (gJ τ 108 0) * 2 ^ (140 + ob.toNat) = N) (hRR : uN rH * 2 ^ 64 + uN rt = R) (hrr : uN hg * 2 ^ 64 + uN lw = rest) (hR : R * R + rest = N / 2 ^ (2 * (k + 1))) (hr : rest ≤ 2 * R) (hs : R < 2 ^ 104) :
    ∃ (fits : Bool) (rt1 rH1 lw1 hg1 : Int64) (rest1 : Nat), b_MO_root_79 ob (nI k, rt, rH, lw, hg, rowst τ (nI 104) lo false r) = (true, (nI k + (-1), rt1, rH1, lw1, hg1, rowst τ (nI 104) lo false (fun o => if o = k then fits else r o))) ∧
      uN rH1 * 2 ^ 64 + uN rt1 = 2 * R + fits.toNat ∧ uN hg1 * 2 ^ 64 + uN lw1 = rest1 ∧ (2 * R + fits.toNat) * (2 * R + fits.toNat) + rest1 = N / 2 ^ (2 * k) ∧ rest1 ≤ 2 * (2 * R + fits.toNat) := by
  have j0 : jat 0 = 0 := by decide
  have c0 : ¬ nI k < 0 := nI_pos (by omega)
  have hf : gJ (rowst τ (nI 104) lo false r) 108 (jat 0) = gJ τ 108 0 := by rw [j0]; rfl
  have tw := two_M ob k hk (nI k) rfl rt rH lw hg (rowst τ (nI 104) lo false r) _ hf
  rw [hN] at tw
  obtain ⟨two, htwo⟩ : ∃ t : Nat, t = N / 2 ^ (2 * k) % 4 := ⟨_, rfl⟩
  rw [← htwo] at tw
  have t4 : two < 4 := by omega
  have tu := two64 t4
  obtain ⟨s1, s2⟩ := mroot_st ob (nI k) k c0 (jat_nI (by omega)) τ (nI 104) lo r rt rH lw hg _ _ _ _ _ _ _ _ tw rfl rfl rfl rfl rfl rfl rfl
  have e104 : (2 : Nat) ^ 104 = 20282409603651670423947251286016 := by decide
  rw [e104] at hs
  have bh : uN hg < 4611686018427387904 := by omega
  have bR : uN rH < 4611686018427387904 := by omega
  have k1 := quad128 (h := hg) (l := lw) bh (t := Int32.toInt64 (nI two)) (by rw [tu]; exact t4)
  rw [tu, hrr] at k1
  have e1 : uN 1 = 1 := rfl
  have k2 := quad128 (h := rH) (l := rt) bR (t := 1) (by decide)
  rw [e1, hRR] at k2
  obtain ⟨k3, k4⟩ := dbl128 (h := rH) (l := rt) (by omega)
  rw [hRR] at k3
  have hB : N / 2 ^ (2 * k) = 4 * (N / 2 ^ (2 * (k + 1))) + two := by
    have e : (2 : Nat) ^ (2 * (k + 1)) = 2 ^ (2 * k) * 4 := by rw [show 2 * (k + 1) = 2 * k + 2 by omega, Nat.pow_add]
    rw [e, ← Nat.div_div_eq_div_mul, htwo]
    omega
  obtain ⟨a1, a2⟩ := rt_alg hR.symm hr t4
  rw [← hB] at a1 a2
  have sb := @sub128 (jlshl hg 2 ||| jlushr lw 62) (jlshl lw 2 ||| Int32.toInt64 (nI two)) (jlshl rH 2 ||| jlushr rt 62) (jlshl rt 2 ||| 1)
  clear hB htwo hN hf hs e104 tu
  generalize jlshl hg 2 ||| jlushr lw 62 = v6 at *
  generalize jlshl lw 2 ||| Int32.toInt64 (nI two) = v7 at *
  generalize jlshl rH 2 ||| jlushr rt 62 = v8 at *
  generalize jlshl rt 2 ||| 1 = v9 at *
  generalize jlshl rH 1 ||| jlushr rt 63 = h2 at *
  generalize jlshl rt 1 = l2 at *
  have b7 := uN_lt v7
  have b9 := uN_lt v9
  have cmp : (if v6 = v8 then f_MO_below v7 v9 = false else f_MO_below v6 v8 = false) ↔ 4 * R + 1 ≤ 4 * rest + two := by
    have bl : ∀ x y : Int64, (f_MO_below x y = false) ↔ ¬ uN x < uN y := fun x y => by
      rw [below_eq]
      exact decide_eq_false_iff_not
    rw [bl, bl, ← k1, ← k2]
    by_cases c : v6 = v8
    · rw [if_pos c, c]
      omega
    · have : uN v6 ≠ uN v8 := fun q => c (uN_inj q)
      rw [if_neg c]
      omega
  by_cases c : 4 * R + 1 ≤ 4 * rest + two
  · obtain ⟨z1, z2⟩ := a1 c
    have sb2 := sb (by rw [k1, k2]; exact c)
    rw [k1, k2] at sb2
    refine ⟨true, _, _, _, _, 4 * rest + two - (4 * R + 1), s1 (cmp.mpr c), ?_, Nat.eq_sub_of_add_eq sb2, z1.symm, z2⟩
    rw [k4, ← Nat.add_assoc, k3]
    rfl
  · obtain ⟨z1, z2⟩ := a2 c
    refine ⟨false, _, _, _, _, 4 * rest + two, s2 (fun q => c (cmp.mp q)), ?_, k1, z1.symm, z2⟩
    have o0 : uN (l2 ||| 0) = uN l2 := by
      rw [uN_orr, show uN 0 = 0 from rfl, Nat.or_zero]
    rw [o0, k3]
    rfl
theorem root_M {τ : St} {A : Re} {w t0 : Nat} (hA : OpIs τ 0 A.1 A.2.1 A.2.2) (pa : A.2.1 < 32767) (hm : A.2.2 ≠ 0 → A.1 = false) (hwd : gI τ 16 35 = nI w) (hw : w < 65536) (ht : gI τ 21 35 = nI t0) :
    Made τ (f_MO_root τ) t0 A.1 (SPz w (digitsOf w) A.1 (radS A).sqrt (decide (radS A - (radS A).sqrt * (radS A).sqrt ≠ 0)) ((unitN A.2.1 - oddS (unitN A.2.1)) / 2 - 70)) := by
  have j0 : jat 0 = 0 := by decide
  have u0 := unit_M (τ := τ) (a := 0) (P := A.2.1) hA.2.1 hA.2.2.1
  have r0 := unitN_rng hA.2.2.1
  have fa := uN_lt2 (gJ τ 108 0)
  rw [hA.2.2.2] at fa
  have n0 : f_MO_isNothing τ 0 = decide (A.2.2 = 0) := nothing_M (a := 0) hA.2.1 hA.2.2.2 pa
  unfold f_MO_root
  rw [n0]
  by_cases za : A.2.2 = 0
  · rw [decide_eq_true za]
    simp only [if_true]
    have z : (radS A).sqrt = 0 := by
      unfold radS
      rw [za, Nat.zero_mul]
      decide
    rw [z, j0, hA.1]
    have id : τ = rowst τ (gI τ 18 35) (gI τ 19 35) (gZ τ 20 35) (gZ τ 109) := by
      unfold rowst
      apply St_ext <;> intro k x <;> simp only [setRow_I, setRow_J, setRow_Z, gI_sI, gI_sZ, gJ_sI, gJ_sZ, gZ_sI, gZ_sZ] <;> grind
    have md := Made_zero (τ := τ) (n := gI τ 18 35) (lo := gI τ 19 35) (m := gZ τ 20 35) (r := gZ τ 109) (w := w) (d := digitsOf w) (sg := A.1) (s := decide (radS A - 0 * 0 ≠ 0)) (e := (unitN A.2.1 - oddS (unitN A.2.1)) / 2 - 70) ht
    rw [← id] at md
    exact md
  · rw [decide_eq_false za]
    simp only [Bool.false_eq_true, if_false]
    have m0 := hm za
    rw [m0]
    have od := odd_M u0 ⟨by omega, by omega⟩
    have hf := half_M u0 ⟨by omega, by omega⟩
    rw [od]
    generalize hlo : (if decide (unitN A.2.1 % 2 = 1) = true then f_MO_unitOf τ 0 - 1 else f_MO_unitOf τ 0) / 2 - 70 = lo at *
    rw [← hf]
    obtain ⟨ob, hob⟩ : ∃ ob : Bool, ob = decide (unitN A.2.1 % 2 = 1) := ⟨_, rfl⟩
    have ho : ob.toNat = oddS (unitN A.2.1) := by
      rw [hob]
      unfold oddS
      by_cases c : unitN A.2.1 % 2 = 1
      · rw [decide_eq_true c, c]
        rfl
      · have : unitN A.2.1 % 2 = 0 := by omega
        rw [decide_eq_false c, this]
        rfl
    rw [← hob]
    have bo : oddS (unitN A.2.1) ≤ 1 := by rw [← ho]; exact Bool.toNat_le _
    have hrad : uN (gJ τ 108 0) * 2 ^ (140 + ob.toNat) = radS A := by
      rw [ho, hA.2.2.2]
      rfl
    have brad : radS A < 2 ^ 208 := by
      have : radS A < 2 ^ 64 * 2 ^ (140 + oddS (unitN A.2.1)) := Nat.mul_lt_mul_of_pos_right fa (pow_pos2 _)
      refine Nat.lt_of_lt_of_le this ?_
      rw [← Nat.pow_add]
      exact Nat.pow_le_pow_right (by decide) (by omega)
    have prad : radS A ≠ 0 := by
      have : 0 < A.2.2 * 2 ^ (140 + oddS (unitN A.2.1)) := Nat.mul_pos (by omega) (pow_pos2 _)
      unfold radS
      omega
    have hlb : -20000 ≤ lo.toInt ∧ lo.toInt ≤ 20000 := by omega
    clear u0 od hf hob hA
    generalize radS A = N at *
    obtain ⟨rr, hrr⟩ : ∃ rr : Nat → Bool, rr = (fun o => if o < 104 then false else gZ τ 109 o) := ⟨_, rfl⟩
    have n104 : (104 : Int32) = nI 104 := rfl
    have em : f_MO_empty τ 104 lo = rowst τ (nI 104) lo false rr := by rw [hrr, n104]; exact empty_M τ 104 (by omega) lo
    have u00 : uN 0 = 0 := rfl
    obtain ⟨rt, rH, lw, hg, r, R, rest, x1, hl, q1, q2, q3, q4, hbits, hQ⟩ : ∃ (rt rH lw hg : Int64) (r : Nat → Bool) (R rest : Nat) (x1 : Int32), lpn (b_MO_root_79 ob) (dnf 103) (103, 0, 0, 0, 0, rowst τ (nI 104) lo false rr) = (x1, rt, rH, lw, hg, rowst τ (nI 104) lo false r) ∧ uN rH * 2 ^ 64 + uN rt = R ∧ uN hg * 2 ^ 64 + uN lw = rest ∧ R * R + rest = N ∧ rest ≤ 2 * R ∧ (∀ j, j < 104 → r j = R.testBit j) ∧ R < 2 ^ 104 := by
      refine lpn_P (b := b_MO_root_79 ob) (fun i t => ∃ (rt rH lw hg : Int64) (r : Nat → Bool) (R rest : Nat), t = (nI (104 - i) + (-1), rt, rH, lw, hg, rowst τ (nI 104) lo false r) ∧ uN rH * 2 ^ 64 + uN rt = R ∧ uN hg * 2 ^ 64 + uN lw = rest ∧ R * R + rest = N / 2 ^ (2 * (104 - i)) ∧ rest ≤ 2 * R ∧ (∀ j, 104 - i ≤ j → j < 104 → r j = R.testBit (j - (104 - i))) ∧ R < 2 ^ i) (fun y => ∃ (rt rH lw hg : Int64) (r : Nat → Bool) (R rest : Nat) (x1 : Int32), y = (x1, rt, rH, lw, hg, rowst τ (nI 104) lo false r) ∧ uN rH * 2 ^ 64 + uN rt = R ∧ uN hg * 2 ^ 64 + uN lw = rest ∧ R * R + rest = N ∧ rest ≤ 2 * R ∧ (∀ j, j < 104 → r j = R.testBit j) ∧ R < 2 ^ 104) 104 ?_ ?_ (by decide) ⟨0, 0, 0, 0, rr, 0, 0, rfl, rfl, rfl, ?_, Nat.le_refl _, fun j h1 h2 => by omega, by decide⟩
      · intro i t hi ⟨rt, rH, lw, hg, r, R, rest, et, e1, e2, e3, e4, e5, e6⟩
        subst et
        obtain ⟨k, hk⟩ : ∃ k, 104 - i = k + 1 := ⟨103 - i, by omega⟩
        have ek : nI (104 - i) + (-1) = nI k := by rw [hk]; exact pk_m1 k
        have ei : 104 - (i + 1) = k := by omega
        rw [hk] at e3
        have s104 : R < 2 ^ 104 := Nat.lt_of_lt_of_le e6 (Nat.pow_le_pow_right (by decide) (by omega))
        obtain ⟨fits, rt1, rH1, lw1, hg1, rest1, d1, d2, d3, d4, d5⟩ := mroot_step ob k (by omega) τ lo r rt rH lw hg N R rest hrad e1 e2 e3 e4 s104
        rw [ek]
        refine ⟨_, d1, rt1, rH1, lw1, hg1, _, 2 * R + fits.toNat, rest1, by rw [ei], d2, d3, by rw [ei]; exact d4, d5, ?_, ?_⟩
        · intro j h1 h2
          rw [ei] at h1 ⊢
          by_cases c : j = k
          · subst c
            simp only [if_true]
            have : j - j = 0 := by omega
            rw [this]
            exact (tb_2Q R fits 0).2.symm
          · simp only [c, if_false]
            rw [e5 j (by omega) h2]
            have : j - k = (j - (104 - i)) + 1 := by omega
            rw [this]
            exact (tb_2Q R fits _).1.symm
        · have := Bool.toNat_le fits
          have p : (2 : Nat) ^ (i + 1) = 2 ^ i * 2 := Nat.pow_succ _ _
          omega
      · intro t ⟨rt, rH, lw, hg, r, R, rest, et, e1, e2, e3, e4, e5, e6⟩
        subst et
        have ek : nI (104 - 104) + (-1) = (-1 : Int32) := by decide
        refine ⟨(-1, rt, rH, lw, hg, rowst τ (nI 104) lo false r), ?_, rt, rH, lw, hg, r, R, rest, -1, rfl, e1, e2, ?_, e4, fun j hj => ?_, e6⟩
        · rw [ek]
          unfold b_MO_root_79
          have : (-1 : Int32) < 0 := by decide
          simp only [this, if_true]
        · have : N / 2 ^ (2 * (104 - 104)) = N := by simp
          rw [← this]
          exact e3
        · have := e5 j (by omega) hj
          have e : j - (104 - 104) = j := by omega
          rw [e] at this
          exact this
      · show 0 * 0 + 0 = N / 2 ^ (2 * (104 - 0))
        rw [Nat.div_eq_of_lt brad]
    have hr := rowN_of_bits hbits hQ
    have l1 := Nat.sqrt_le N
    have l2 := Nat.lt_succ_sqrt N
    have l3 : N.sqrt.succ * N.sqrt.succ = N.sqrt * N.sqrt + 2 * N.sqrt + 1 := by
      generalize N.sqrt = s
      show (s + 1) * (s + 1) = _
      grind
    have hs : R = N.sqrt := by
      refine sqrt_uniq q3 q4 (s := N - N.sqrt * N.sqrt) (by omega) (by omega)
    have m1 : (if hg ||| lw = 0 then false else true) = decide (N - N.sqrt * N.sqrt ≠ 0) := by
      have e1 : N - N.sqrt * N.sqrt = rest := by rw [← hs, ← q3]; omega
      rw [e1]
      have c : (hg ||| lw = 0) ↔ rest = 0 := by
        rw [uN_eq0, uN_orr, Nat.or_eq_zero_iff]
        omega
      simp only [c]
      by_cases q : rest = 0 <;> simp [q]
    simp only [em, hl, m1, rowst_more]
    rw [← hs]
    have R1 : R ≠ 0 := fun z => by
      rw [z] at q3 q4
      omega
    have lg := log2_le hQ R1
    exact Made_make (by decide) hr R1 hwd hw ⟨by omega, by omega⟩ ⟨by omega, by omega⟩ ht
