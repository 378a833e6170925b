/-! the remainder -/
def remC (A B : Re) : Bool := isInf A.2.1 A.2.2 || isNil B.2.1 B.2.2 || decide (kindN B.2.1 B.2.2 = 2)
def norS (A : Re) : Nat := A.2.2 * 2 ^ (63 - A.2.2.log2)
def remD (A B : Re) : Int := if isInf B.2.1 B.2.2 = true ∨ A.2.2 = 0 then -1 else expS A - expS B
def remZ (A B : Re) : Nat := min (remD A B).toNat 63
def remN (A B : Re) : Nat := if remD A B < 0 then A.2.2 else norS A * 2 ^ remZ A B % norS B
def remE (A B : Re) : Int := if remD A B < 0 then unitN A.2.1 else expS B + remD A B - remZ A B - 63
def remQ (A B : Re) : Nat := if remD A B < 0 then 0 else norS A * 2 ^ remZ A B / norS B % 8
def remP (A B : Re) : Bool := decide (63 < remD A B)
def remV (w : Nat) (A B : Re) : Nat × Int × Nat := SPz w 64 A.1 (remN A B) false (remE A B)
def remS (w : Nat) (A B : Re) : Nat × Ra × Option (Bool × Nat) :=
  ((setS w A B (remC A B)).map (fun R => (R.1, R.2, none))).getD (denS A B ||| (remV w A B).1, (A.1, (remV w A B).2), some (remP A B, remQ A B))
theorem dm {a q r Y : Nat} (h : a = q * Y + r) (hr : r < Y) : a / Y = q ∧ a % Y = r := by
  subst h
  constructor
  · rw [Nat.add_comm, Nat.mul_comm, Nat.add_mul_div_left _ _ (by omega), Nat.div_eq_of_lt hr, Nat.zero_add]
  · rw [Nat.add_comm, Nat.add_mul_mod_self_right, Nat.mod_eq_of_lt hr]
theorem low7 (l : Int64) : (Int64.toInt32 l) &&& 7 = nI (uN l % 8) := by
  apply Int32.toBitVec_inj.mp
  apply BitVec.eq_of_toNat_eq
  have e1 : (Int64.toInt32 l).toBitVec.toNat = uN l % 4294967296 := by
    show (l.toBitVec.signExtend 32).toNat = _
    rw [BitVec.signExtend_eq_setWidth_of_le _ (by decide), BitVec.toNat_setWidth]
    rfl
  have e2 : (7 : Int32).toBitVec.toNat = 2 ^ 3 - 1 := by decide
  have e3 : (nI (uN l % 8)).toBitVec.toNat = uN l % 8 := by
    show (BitVec.ofNat 32 (uN l % 8)).toNat = _
    rw [BitVec.toNat_ofNat]
    omega
  rw [Int32.toBitVec_and, BitVec.toNat_and, e1, e2, Nat.and_two_pow_sub_one_eq_mod, e3]
  omega
theorem frP_Z (σ : St) (k o : Nat) (v : Bool) (hk : k = 18 ∨ k = 19) : frP σ (sZ σ k o v) := by
  refine ⟨fun _ _ _ _ _ _ => rfl, fun _ _ _ _ _ _ _ => rfl, fun k' x a b c d e => ?_⟩
  rw [gZ_sZ, if_neg (by omega)]
theorem frP_20 (σ : St) (o : Nat) (v : Int32) : frP σ (sI σ 20 o v) := by
  refine ⟨fun k' x a b c d => ?_, fun _ _ _ _ _ _ _ => rfl, fun _ _ _ _ _ _ _ => rfl⟩
  rw [gI_sI, if_neg (by omega)]
theorem frP_S {σ τ : St} (h : frS σ τ) : frP σ τ := frP_R (a := 14) (frR_S h) (by decide)
theorem frS_lds (σ : St) (o : Nat) (r h l : Int64) : frS σ (lds σ o r h l) := by
  refine ⟨fun _ _ _ => rfl, fun k x a b c d => ?_, fun _ _ _ _ => rfl⟩
  simp [lds, gJ_sJ, a, b, d]
def RemC (σ τ : St) (w t : Nat) (R : Nat × Ra × Option (Bool × Nat)) : Prop := frP σ τ ∧ gI τ 7 3 = nI (t ||| R.1) ∧ R.1 < 64 ∧ (endsN w R.1 = false → RaIs τ 14 R.2.1 ∧ gZ τ 18 25 = R.2.2.isSome ∧ ∀ P Q, R.2.2 = some (P, Q) → gZ τ 19 25 = P ∧ gI τ 20 25 = nI Q)
theorem nor_L {s : St} {o : Nat} {A : Re} (h : Loaded s o A.2.2 (unitN A.2.1)) (hF : A.2.2 ≠ 0) : uN (gJ s 8 o) = norS A ∧ 2 ^ 63 ≤ norS A ∧ (gI s 11 o).toInt = expS A - 127 ∧ A.2.2.log2 < 64 := by
  rcases h.2.2 with ⟨z1, z2, z3⟩ | ⟨z1, j, z2, z3, z4⟩
  · exact absurd z1 hF
  · have b := uN_lt2 (gJ s 8 o)
    have z1' := z1
    rw [z3] at z1' b
    have lg := norm_log z2 z1' b
    have ej : 63 - A.2.2.log2 = j := by omega
    refine ⟨?_, ?_, ?_, by omega⟩
    · unfold norS
      rw [ej]
      exact z3
    · unfold norS
      rw [ej]
      exact z1'
    · unfold expS
      rw [z4]
      omega
theorem reduce_C {s : St} {A B : Re} {v : Int32} {z : Nat} (ha : Loaded s 6 A.2.2 (unitN A.2.1)) (hb : Loaded s 7 B.2.2 (unitN B.2.1)) (fa : A.2.2 ≠ 0) (fb : B.2.2 ≠ 0) (pa : A.2.1 ≤ 32767) (pb : B.2.1 ≤ 32767) (hd : 0 ≤ remD A B) (hD : remD A B = expS A - expS B) (hv : v.toInt = remD A B) (hz : z = remZ A B) :
    ∃ s2 : St, f_Size_reduce s 6 7 (nI z) (v - nI z) = (nI (remQ A B), s2) ∧ frS s s2 ∧ SizeIs s2 6 (remN A B) false (remE A B) := by
  obtain ⟨a1, a2, a3, a4⟩ := nor_L ha fa
  obtain ⟨b1, b2, b3, b4⟩ := nor_L hb fb
  have ea := unitN_rng pa
  have eb := unitN_rng pb
  have zl : z ≤ 63 := by rw [hz]; unfold remZ; omega
  have xa : expS A = unitN A.2.1 + (A.2.2.log2 : Int) := rfl
  have xb : expS B = unitN B.2.1 + (B.2.2.log2 : Int) := rfl
  obtain ⟨r, h, l, c1, c2, c3⟩ := longDivide_spec s 6 (gJ s 8 7) z (by omega) (by rw [b1]; exact b2)
  have nd : ¬ remD A B < 0 := by omega
  rw [a1, b1] at c2
  rw [b1] at c3
  obtain ⟨q1, q2⟩ := dm c2.symm c3
  have fl := frS_lds s 6 r h l
  have u7 : gI (lds s 6 r h l) 11 7 = gI s 11 7 := rfl
  have e64 : (64 : Int32).toInt = 64 := by decide
  have ez : (nI z).toInt = z := nI_toInt (by omega)
  have e1 : (gI s 11 7 + 64).toInt = expS B - 63 := by rw [i32_addT (by omega) (by omega), b3, e64]; omega
  have e2 : (v - nI z).toInt = remD A B - z := by rw [i32_subT (by omega) (by omega), hv, ez]
  have e3 : (gI s 11 7 + 64 + (v - nI z)).toInt = remE A B := by
    rw [i32_addT (by omega) (by omega), e1, e2]
    unfold remE
    rw [if_neg nd, hz]
    omega
  have rE : -38000 ≤ remE A B ∧ remE A B ≤ 38000 := by
    unfold remE
    rw [if_neg nd]
    rw [← hz]
    omega
  have q7 : uN l % 8 = remQ A B := by
    unfold remQ
    rw [if_neg nd, ← hz, q1]
    omega
  have rN : uN r = remN A B := by
    unfold remN
    rw [if_neg nd, ← hz, q2]
  unfold f_Size_reduce
  simp only [c1, lds_9, lds_14, low7, q7, u7]
  obtain ⟨h3, u3, l1, l2⟩ := loadTimes_spec (lds s 6 r h l) 6 r (gI s 11 7 + 64 + (v - nI z)) (by rw [e3]; omega)
  have fl3 := frS_szm (lds s 6 r h l) 6 h3 0 false u3
  rw [l1]
  have ld3 : Loaded (szm (lds s 6 r h l) 6 h3 0 false u3) 6 (uN r) (remE A B) := by
    refine ⟨szm_9 _ _ _ _ _ _, szm_10 _ _ _ _ _ _, ?_⟩
    rw [szm_8, szm_11]
    rcases l2 with ⟨y1, y2, y3⟩ | ⟨y1, j, y2, y3, y4⟩
    · exact Or.inl ⟨uN_eq0.mp y1, y2, by rw [y3]; decide⟩
    · exact Or.inr ⟨y1, j, y2, y3, by rw [y4, e3]⟩
  rw [rN] at ld3
  exact ⟨_, rfl, frS_trans fl fl3, Loaded_Size ld3 rE⟩
theorem remC_N {σ : St} {A B : Re} (ha : RealIs σ 12 A.1 A.2.1 A.2.2) (hb : RealIs σ 13 B.1 B.2.1 B.2.2) : (if f_Real_isInfinite σ 12 = true then true else if f_Real_isNothing σ 13 = true then true else if f_Real_kind σ 13 = 2 then true else false) = remC A B := by
  have k : (f_Real_kind σ 13 = 2) ↔ kindN B.2.1 B.2.2 = 2 := by
    rw [kind_N hb, show (2 : Int32) = nI 2 from rfl, nI_eq (kind_lt _ _) (by decide)]
  unfold remC
  simp only [inf_N ha, nil_N hb, k]
  cases isInf A.2.1 A.2.2 <;> cases isNil B.2.1 B.2.2 <;> by_cases q : kindN B.2.1 B.2.2 = 2 <;> simp [q]
theorem rem_facts {w : Nat} {A B : Re} (h : setS w A B (remC A B) = none) : A.2.1 ≠ 32767 ∧ (isInf B.2.1 B.2.2 = false → B.2.2 ≠ 0) := by
  obtain ⟨hn, hc, -, -⟩ := setS_none h
  unfold remC at hc
  have h1 := Bool.or_eq_false_iff.mp hc
  have h2 := Bool.or_eq_false_iff.mp h1.1
  have h3 := Bool.or_eq_false_iff.mp hn
  refine ⟨fun p => ?_, fun hb z => ?_⟩
  · have i := h2.1
    have n := h3.1
    unfold isInf at i
    unfold isNan at n
    by_cases q : A.2.2 % 9223372036854775808 = 0 <;> simp [p, q] at i n
  · have n := h2.2
    unfold isNil at n
    unfold isInf at hb
    by_cases q : B.2.1 = 32767 <;> simp [q, z] at n hb
theorem rem_t2 {s4 : St} {w : Nat} {A B : Re} (hset : setS w A B (remC A B) = none) (ha : RealIs s4 12 A.1 A.2.1 A.2.2) (hb : RealIs s4 13 B.1 B.2.1 B.2.2) (h19 : gZ s4 19 25 = false) (h20 : gI s4 20 25 = 0) :
    ∃ t2 : St, (if f_Real_isInfinite (f_Size_load s4 6 12) 13 = true then f_Size_load s4 6 12 else
      if f_Size_exponent (f_Size_load (f_Size_load s4 6 12) 7 13) 6 - f_Size_exponent (f_Size_load (f_Size_load s4 6 12) 7 13) 7 < 0 then sZ (f_Size_load (f_Size_load s4 6 12) 7 13) 19 25 (if f_Size_exponent (f_Size_load (f_Size_load s4 6 12) 7 13) 6 - f_Size_exponent (f_Size_load (f_Size_load s4 6 12) 7 13) 7 < 64 then false else true)
      else sI (f_Size_reduce (sZ (f_Size_load (f_Size_load s4 6 12) 7 13) 19 25 (if f_Size_exponent (f_Size_load (f_Size_load s4 6 12) 7 13) 6 - f_Size_exponent (f_Size_load (f_Size_load s4 6 12) 7 13) 7 < 64 then false else true)) 6 7 (if gZ (sZ (f_Size_load (f_Size_load s4 6 12) 7 13) 19 25 (if f_Size_exponent (f_Size_load (f_Size_load s4 6 12) 7 13) 6 - f_Size_exponent (f_Size_load (f_Size_load s4 6 12) 7 13) 7 < 64 then false else true)) 19 25 = true then 63 else f_Size_exponent (f_Size_load (f_Size_load s4 6 12) 7 13) 6 - f_Size_exponent (f_Size_load (f_Size_load s4 6 12) 7 13) 7) (f_Size_exponent (f_Size_load (f_Size_load s4 6 12) 7 13) 6 - f_Size_exponent (f_Size_load (f_Size_load s4 6 12) 7 13) 7 - (if gZ (sZ (f_Size_load (f_Size_load s4 6 12) 7 13) 19 25 (if f_Size_exponent (f_Size_load (f_Size_load s4 6 12) 7 13) 6 - f_Size_exponent (f_Size_load (f_Size_load s4 6 12) 7 13) 7 < 64 then false else true)) 19 25 = true then 63 else f_Size_exponent (f_Size_load (f_Size_load s4 6 12) 7 13) 6 - f_Size_exponent (f_Size_load (f_Size_load s4 6 12) 7 13) 7))).2 20 25 (f_Size_reduce (sZ (f_Size_load (f_Size_load s4 6 12) 7 13) 19 25 (if f_Size_exponent (f_Size_load (f_Size_load s4 6 12) 7 13) 6 - f_Size_exponent (f_Size_load (f_Size_load s4 6 12) 7 13) 7 < 64 then false else true)) 6 7 (if gZ (sZ (f_Size_load (f_Size_load s4 6 12) 7 13) 19 25 (if f_Size_exponent (f_Size_load (f_Size_load s4 6 12) 7 13) 6 - f_Size_exponent (f_Size_load (f_Size_load s4 6 12) 7 13) 7 < 64 then false else true)) 19 25 = true then 63 else f_Size_exponent (f_Size_load (f_Size_load s4 6 12) 7 13) 6 - f_Size_exponent (f_Size_load (f_Size_load s4 6 12) 7 13) 7) (f_Size_exponent (f_Size_load (f_Size_load s4 6 12) 7 13) 6 - f_Size_exponent (f_Size_load (f_Size_load s4 6 12) 7 13) 7 - (if gZ (sZ (f_Size_load (f_Size_load s4 6 12) 7 13) 19 25 (if f_Size_exponent (f_Size_load (f_Size_load s4 6 12) 7 13) 6 - f_Size_exponent (f_Size_load (f_Size_load s4 6 12) 7 13) 7 < 64 then false else true)) 19 25 = true then 63 else f_Size_exponent (f_Size_load (f_Size_load s4 6 12) 7 13) 6 - f_Size_exponent (f_Size_load (f_Size_load s4 6 12) 7 13) 7))).1) = t2 ∧
      frP s4 t2 ∧ gI t2 6 3 = gI s4 6 3 ∧ gI t2 7 3 = gI s4 7 3 ∧ gZ t2 15 12 = A.1 ∧ SizeIs t2 6 (remN A B) false (remE A B) ∧ gZ t2 18 25 = gZ s4 18 25 ∧ gZ t2 19 25 = remP A B ∧ gI t2 20 25 = nI (remQ A B) := by
  obtain ⟨pA, pB⟩ := rem_facts hset
  have ea := unitN_rng ha.2.2.2
  have eb := unitN_rng hb.2.2.2
  obtain ⟨f6, l6, l7⟩ := load67 s4 12 13 _ _ _ _ _ _ ha hb
  obtain ⟨h, u, c1, c2⟩ := load_spec s4 6 12 A.2.1 ha.2.2.2 ha.2.1
  rw [ha.2.2.1] at c2
  have f5 : frS s4 (f_Size_load s4 6 12) := by rw [c1]; exact frS_szm _ _ _ _ _ _
  have l5 : Loaded (f_Size_load s4 6 12) 6 A.2.2 (unitN A.2.1) := by rw [c1]; exact c2
  generalize f_Size_load (f_Size_load s4 6 12) 7 13 = s6 at *
  generalize f_Size_load s4 6 12 = s5 at *
  have hb5 := RealIs_fr hb f5
  rw [inf_N hb5]
  cases hi : isInf B.2.1 B.2.2 with
  | true =>
    have rd : remD A B = -1 := by unfold remD; rw [if_pos (Or.inl hi)]
    have rn : remD A B < 0 := by omega
    refine ⟨s5, rfl, frP_S f5, f5.1 6 3 (by decide), f5.1 7 3 (by decide), (RealIs_fr ha f5).1, ?_, f5.2.2 18 25 (by decide) (by decide), ?_, ?_⟩
    · unfold remN remE
      rw [if_pos rn, if_pos rn]
      exact Loaded_Size l5 ⟨by omega, by omega⟩
    · rw [f5.2.2 19 25 (by decide) (by decide), h19]
      unfold remP
      rw [rd]
      rfl
    · rw [f5.1 20 25 (by decide), h20]
      unfold remQ
      rw [if_pos rn]
      rfl
  | false =>
    simp only [Bool.false_eq_true, if_false]
    have fB := pB hi
    obtain ⟨b1, b2, b3, b4⟩ := nor_L l7 fB
    have x7 := exp_C l7 ⟨by omega, by omega⟩
    rw [if_neg fB] at x7
    have x6 := exp_C l6 ⟨by omega, by omega⟩
    have xb : expS B = unitN B.2.1 + (B.2.2.log2 : Int) := rfl
    have xa : expS A = unitN A.2.1 + (A.2.2.log2 : Int) := rfl
    rw [← xb] at x7
    have h19' : ∀ v, gZ (sZ s6 19 25 v) 19 25 = v := fun v => by simp [gZ_sZ]
    simp only [h19']
    have lA : A.2.2 ≠ 0 → A.2.2.log2 < 64 := fun z => (nor_L l6 z).2.2.2
    have dv : (f_Size_exponent s6 6 - f_Size_exponent s6 7).toInt = if A.2.2 = 0 then -16873 - expS B else expS A - expS B := by
      by_cases z : A.2.2 = 0
      · rw [if_pos z] at x6
        rw [if_pos z, i32_subT (by omega) (by omega), x6, x7]
      · rw [if_neg z] at x6
        have := lA z
        rw [if_neg z, i32_subT (by omega) (by omega), x6, x7, xa]
    generalize f_Size_exponent s6 6 - f_Size_exponent s6 7 = v at *
    have c0 : (v < 0) ↔ v.toInt < 0 := by rw [Int32.lt_iff_toInt_lt]; exact Iff.rfl
    have c64 : (v < 64) ↔ v.toInt < 64 := by rw [Int32.lt_iff_toInt_lt, show (64 : Int32).toInt = 64 by decide]
    simp only [c0, c64]
    have t3 : (if v.toInt < 64 then false else true) = remP A B := by
      unfold remP remD
      rw [dv]
      by_cases z : A.2.2 = 0
      · rw [if_pos z, if_pos (Or.inr z), if_pos (by omega)]
        rfl
      · have : ¬ (isInf B.2.1 B.2.2 = true ∨ A.2.2 = 0) := by
          rw [hi]
          simp [z]
        rw [if_neg z, if_neg this]
        by_cases q : expS A - expS B < 64
        · have : ¬ 63 < expS A - expS B := by omega
          simp [q, this]
        · have : 63 < expS A - expS B := by omega
          simp [q, this]
    rw [t3]
    have f7 : frP s4 (sZ s6 19 25 (remP A B)) := frP_trans (frP_S f6) (frP_Z _ 19 25 _ (Or.inr rfl))
    by_cases n : v.toInt < 0
    · rw [if_pos n]
      have rn : remD A B < 0 := by
        unfold remD
        by_cases z : A.2.2 = 0
        · rw [if_pos (Or.inr z)]
          decide
        · rw [if_neg z] at dv
          rw [if_neg (by rw [hi]; simp [z])]
          omega
      refine ⟨_, rfl, f7, ?_, ?_, ?_, ?_, ?_, h19' _, ?_⟩
      · exact f6.1 6 3 (by decide)
      · exact f6.1 7 3 (by decide)
      · exact (RealIs_fr ha f6).1
      · unfold remN remE
        rw [if_pos rn, if_pos rn]
        exact Loaded_Size (σ := sZ s6 19 25 (remP A B)) l6 ⟨by omega, by omega⟩
      · exact f6.2.2 18 25 (by decide) (by decide)
      · have e : gI (sZ s6 19 25 (remP A B)) 20 25 = gI s6 20 25 := rfl
        rw [e, f6.1 20 25 (by decide), h20]
        unfold remQ
        rw [if_pos rn]
        rfl
    · rw [if_neg n]
      have z : A.2.2 ≠ 0 := fun z => by
        rw [if_pos z] at dv
        omega
      rw [if_neg z] at dv
      have hD : remD A B = expS A - expS B := by
        unfold remD
        rw [if_neg (by rw [hi]; simp [z])]
      have hv : v.toInt = remD A B := by rw [hD]; exact dv
      have t4 : (if remP A B = true then 63 else v) = nI (remZ A B) := by
        unfold remP remZ
        by_cases q : 63 < remD A B
        · have : min (remD A B).toNat 63 = 63 := by omega
          rw [this, decide_eq_true q]
          rfl
        · have : min (remD A B).toNat 63 = (remD A B).toNat := by omega
          rw [this, decide_eq_false q]
          simp only [Bool.false_eq_true, if_false]
          apply Int32.toInt_inj.mp
          rw [hv, nI_toInt (by omega)]
          omega
      rw [t4]
      obtain ⟨s2, r1, r2, r3⟩ := reduce_C (s := sZ s6 19 25 (remP A B)) (A := A) (B := B) (v := v) l6 l7 z fB ha.2.2.2 hb.2.2.2 (by omega) hD hv rfl
      rw [r1]
      refine ⟨_, rfl, frP_trans f7 (frP_trans (frP_S r2) (frP_20 _ _ _)), ?_, ?_, ?_, ?_, ?_, ?_, ?_⟩
      · show gI (sI s2 20 25 (nI (remQ A B))) 6 3 = _
        rw [gI_sI, if_neg (by decide), r2.1 6 3 (by decide)]
        exact f6.1 6 3 (by decide)
      · show gI (sI s2 20 25 (nI (remQ A B))) 7 3 = _
        rw [gI_sI, if_neg (by decide), r2.1 7 3 (by decide)]
        exact f6.1 7 3 (by decide)
      · show gZ s2 15 12 = A.1
        rw [r2.2.2 15 12 (by decide) (by decide)]
        exact (RealIs_fr ha f6).1
      · exact r3
      · show gZ s2 18 25 = _
        rw [r2.2.2 18 25 (by decide) (by decide)]
        exact f6.2.2 18 25 (by decide) (by decide)
      · show gZ s2 19 25 = _
        rw [r2.2.2 19 25 (by decide) (by decide)]
        exact h19' _
      · show gI (sI s2 20 25 (nI (remQ A B))) 20 25 = _
        rw [gI_sI, if_pos rfl, if_pos rfl]
theorem remainder_C {σ : St} {w t : Nat} {A B : Re} (hs : gI σ 6 3 = nI w) (hw : w < 65536) (ht : gI σ 7 3 = nI t) (htt : t < 64) (hne : endsN w t = false) (ha : RealIs σ 12 A.1 A.2.1 A.2.2) (hb : RealIs σ 13 B.1 B.2.1 B.2.2) : RemC σ (f_Steps_takeRemainder σ 12 13 14) w t (remS w A B) := by
  unfold f_Steps_takeRemainder remS
  have ha1 : RealIs (sZ σ 18 25 false) 12 A.1 A.2.1 A.2.2 := ha
  have hb1 : RealIs (sZ σ 18 25 false) 13 B.1 B.2.1 B.2.2 := hb
  have hs1 : gI (sZ σ 18 25 false) 6 3 = nI w := hs
  have ht1 : gI (sZ σ 18 25 false) 7 3 = nI t := ht
  have f0 : frP σ (sZ σ 18 25 false) := frP_Z _ 18 25 _ (Or.inl rfl)
  have z18 : gZ (sZ σ 18 25 false) 18 25 = false := by simp [gZ_sZ]
  generalize sZ σ 18 25 false = s1 at *
  simp only [remC_N ha1 hb1]
  rcases settle_C (a4 := 14) (cn := remC A B) hs1 hw ht1 htt hne ha1 hb1 with ⟨R, τ, e1, e2, e3⟩ | ⟨e1, e2, d2, en, nn, e6⟩
  · rw [e1, e2]
    simp only [if_true]
    show RemC σ τ w t (R.1, R.2, none)
    refine ⟨frP_trans f0 (frP_R e3.1 (by decide)), e3.2.1, e3.2.2.1, fun q => ⟨e3.2.2.2 q, ?_, fun P Q e => by cases e⟩⟩
    rw [e3.1.2.2 18 25 (by decide) (by decide) (by decide), z18]
    rfl
  · rw [e1, e2]
    simp only [Bool.false_eq_true, if_false]
    show RemC σ _ w t (denS A B ||| (remV w A B).1, (A.1, (remV w A B).2), some (remP A B, remQ A B))
    have f1 : frR 14 s1 (f_Ctl_tell s1 (nI (denS A B))) := frR_tell _ _ _
    have t1 : gI (f_Ctl_tell s1 (nI (denS A B))) 7 3 = nI (t ||| denS A B) := by rw [tell_7, ht1, nI_or _ _ (by omega) (by omega)]
    have w1 : gI (f_Ctl_tell s1 (nI (denS A B))) 6 3 = nI w := hs1
    have ra := RealIs_frR ha1 f1 (by decide)
    have rb := RealIs_frR hb1 f1 (by decide)
    have dl : denS A B < 64 := by omega
    have fp := frP_trans f0 (frP_R f1 (by decide))
    generalize f_Ctl_tell s1 (nI (denS A B)) = ρ at *
    have fp4 : frP σ (sI (sZ (sZ ρ 18 25 true) 19 25 false) 20 25 0) := frP_trans fp (frP_trans (frP_Z _ 18 25 _ (Or.inl rfl)) (frP_trans (frP_Z _ 19 25 _ (Or.inr rfl)) (frP_20 _ _ _)))
    have ra4 : RealIs (sI (sZ (sZ ρ 18 25 true) 19 25 false) 20 25 0) 12 A.1 A.2.1 A.2.2 := ra
    have rb4 : RealIs (sI (sZ (sZ ρ 18 25 true) 19 25 false) 20 25 0) 13 B.1 B.2.1 B.2.2 := rb
    have w4 : gI (sI (sZ (sZ ρ 18 25 true) 19 25 false) 20 25 0) 6 3 = nI w := w1
    have t4 : gI (sI (sZ (sZ ρ 18 25 true) 19 25 false) 20 25 0) 7 3 = nI (t ||| denS A B) := t1
    have h18 : gZ (sI (sZ (sZ ρ 18 25 true) 19 25 false) 20 25 0) 18 25 = true := by simp [gZ_sI, gZ_sZ]
    have h19 : gZ (sI (sZ (sZ ρ 18 25 true) 19 25 false) 20 25 0) 19 25 = false := by simp [gZ_sI, gZ_sZ]
    have h20 : gI (sI (sZ (sZ ρ 18 25 true) 19 25 false) 20 25 0) 20 25 = 0 := by simp [gI_sI]
    generalize sI (sZ (sZ ρ 18 25 true) 19 25 false) 20 25 0 = s4 at *
    obtain ⟨t2, k0, k1, k2, k3, k4, k5, k6, k7, k8⟩ := rem_t2 e1 ra4 rb4 h19 h20
    rw [k0, k4, show (64 : Int32) = nI 64 from rfl]
    rw [w4] at k2
    rw [t4] at k3
    rw [h18] at k6
    obtain ⟨σ2, pw, F, m1, m2, m3', m4⟩ := class_make t2 11 6 A.1 64 14 w _ false _ k2 hw (Or.inr (Or.inr rfl)) k5
    obtain ⟨r1, r2, r3, r4⟩ := SPz_rng (w := w) (m := A.1) (n := 64) (Or.inr (Or.inr rfl)) k5
    rw [m2]
    have g1 : frR 14 t2 (f_Real_set (f_Ctl_tell σ2 (nI (remV w A B).1)) 14 A.1 pw F) := frR_trans (frR_S m1) (frR_trans (frR_tell _ _ _) (frR_set _ _ _ _ _))
    have vl : (remV w A B).1 < 64 := r1
    refine ⟨frP_trans fp4 (frP_trans k1 (frP_R g1 (by decide))), ?_, or_lt64 dl vl, fun _ => ⟨RaIs_set m3' m4 ⟨r3, r4⟩, ?_, fun P Q e => ?_⟩⟩
    · have e : gI (f_Real_set (f_Ctl_tell σ2 (nI (remV w A B).1)) 14 A.1 pw F) 7 3 = gI (f_Ctl_tell σ2 (nI (remV w A B).1)) 7 3 := rfl
      show gI (f_Real_set (f_Ctl_tell σ2 (nI (remV w A B).1)) 14 A.1 pw F) 7 3 = nI (t ||| (denS A B ||| (remV w A B).1))
      rw [e, tell_7, m1.1 7 3 (by decide), k3, nI_or _ _ (by have := or_lt64 htt dl; omega) (by omega), Nat.or_assoc]
    · show gZ σ2 18 25 = true
      rw [m1.2.2 18 25 (by decide) (by decide)]
      exact k6
    · have e' : some (remP A B, remQ A B) = some (P, Q) := e
      have e2 := Option.some.inj e'
      have eP : remP A B = P := congrArg Prod.fst e2
      have eQ : remQ A B = Q := congrArg Prod.snd e2
      refine ⟨?_, ?_⟩
      · show gZ σ2 19 25 = P
        rw [m1.2.2 19 25 (by decide) (by decide), k7]
        exact eP
      · show gI σ2 20 25 = nI Q
        rw [m1.1 20 25 (by decide), k8, eQ]
