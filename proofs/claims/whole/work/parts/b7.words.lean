/-! words, environments, whole states -/
def unmB (w t : Nat) : Bool := (t.testBit 0 && !w.testBit 0) || (t.testBit 1 && !w.testBit 1) || (t.testBit 2 && !w.testBit 2) || (t.testBit 3 && !w.testBit 3) || (t.testBit 4 && !w.testBit 4) || (t.testBit 5 && !w.testBit 5)
def statN (a : Ab) : Nat := a.told + cndN a.c0 a.c1 a.c2 a.c3 + 2048 * a.top + (if unmB a.w a.told then 128 else 0)
theorem unm_C {t w : Nat} (ht : t < 64) (hw : w < 65536) : (nI t &&& (nI w ^^^ (-1)) = 0) ↔ unmB w t = false := by
  have h := ends_gen (t := t) (w := w) (k := 6) (by omega) (by omega) (by decide)
  have m : (nI t &&& (nI w ^^^ (-1))) &&& nI (2 ^ 6 - 1) = nI t &&& (nI w ^^^ (-1)) := by
    have e : nI t &&& nI (2 ^ 6 - 1) = nI t := by
      rw [nI_and _ _ (by omega) (by decide)]
      congr 1
      rw [Nat.and_two_pow_sub_one_eq_mod]
      omega
    rw [Int32.and_assoc, Int32.and_comm (nI w ^^^ (-1)), ← Int32.and_assoc, e]
  rw [m] at h
  rw [h]
  unfold unmB
  constructor
  · intro q
    have f : ∀ a b : Bool, ¬ (a = true ∧ b = false) → (a && !b) = false := fun a b => by cases a <;> cases b <;> simp
    rw [f _ _ (q 0 (by decide)), f _ _ (q 1 (by decide)), f _ _ (q 2 (by decide)), f _ _ (q 3 (by decide)), f _ _ (q 4 (by decide)), f _ _ (q 5 (by decide))]
    rfl
  · intro q i hi ⟨a, b⟩
    rcases (show i = 0 ∨ i = 1 ∨ i = 2 ∨ i = 3 ∨ i = 4 ∨ i = 5 by omega) with rfl | rfl | rfl | rfl | rfl | rfl <;> rw [a, b] at q <;> simp at q
theorem cnd_split (c0 c1 c2 c3 : Bool) : ∃ cl ch, cndN c0 c1 c2 c3 = ch * 16384 + cl * 256 ∧ cl < 8 ∧ ch < 2 := by
  refine ⟨c0.toNat + 2 * c1.toNat + 4 * c2.toNat, c3.toNat, ?_, ?_, ?_⟩
  · cases c0 <;> cases c1 <;> cases c2 <;> cases c3 <;> rfl
  · cases c0 <;> cases c1 <;> cases c2 <;> decide
  · cases c3 <;> decide
theorem cnd_lt (c0 c1 c2 c3 : Bool) : cndN c0 c1 c2 c3 < 32768 := by cases c0 <;> cases c1 <;> cases c2 <;> cases c3 <;> decide
theorem or4 (x1 x2 x3 x4 : Nat) : (x1 ||| (x2 ||| x3)) ||| x4 = (x2 ||| x4) ||| (x3 ||| x1) := by
  apply Nat.eq_of_testBit_eq
  intro i
  rw [Nat.testBit_or, Nat.testBit_or, Nat.testBit_or, Nat.testBit_or, Nat.testBit_or, Nat.testBit_or]
  cases x1.testBit i <;> cases x2.testBit i <;> cases x3.testBit i <;> cases x4.testBit i <;> rfl
theorem or_14 {a b : Nat} (h : b < 16384) : a * 16384 ||| b = a * 16384 + b := or_add (k := 14) h
theorem or_11 {a b : Nat} (h : b < 2048) : a * 2048 ||| b = a * 2048 + b := or_add (k := 11) h
theorem or_8 {a b : Nat} (h : b < 256) : a * 256 ||| b = a * 256 + b := or_add (k := 8) h
theorem or_7 {a b : Nat} (h : b < 128) : a * 128 ||| b = a * 128 + b := or_add (k := 7) h
theorem stat_or {t u c p : Nat} (ht : t < 64) (hu : u = 0 ∨ u = 128) (hc : ∃ cl ch, c = ch * 16384 + cl * 256 ∧ cl < 8 ∧ ch < 2) (hp : p < 8) : ((t ||| u) ||| c) ||| (p * 2048) = t + c + 2048 * p + u := by
  obtain ⟨cl, ch, hc1, h8, h2⟩ := hc
  have e1 : t ||| u = u + t := by
    have : ∃ v, u = v * 128 := by
      rcases hu with rfl | rfl
      · exact ⟨0, rfl⟩
      · exact ⟨1, rfl⟩
    obtain ⟨v, rfl⟩ := this
    rw [Nat.or_comm, or_7 (by omega)]
  have e2 : c = ch * 16384 ||| cl * 256 := by
    rw [hc1, or_14 (by omega)]
  have e3 : cl * 256 ||| (u + t) = cl * 256 + (u + t) := or_8 (by omega)
  have e4 : ch * 16384 ||| p * 2048 = ch * 16384 + p * 2048 := or_14 (by omega)
  have e6 : ch * 16384 + p * 2048 = (ch * 8 + p) * 2048 := by omega
  rw [e1, e2, or4, e4, e3, e6, or_11 (by omega), or_14 (by omega)]
  clear e1 e2 e3 e4 e6 hc1 hu ht h8 h2 hp
  rw [Nat.add_mul]
  omega
theorem status_C {K : K6} {a : Ab} {σ : St} (h : RC a σ) (ha : AOK K a) : f_PS_status σ = nI (statN a) := by
  have t := ha.top
  have o := ha.told
  have c := cnd_lt a.c0 a.c1 a.c2 a.c3
  have e1 : jshl (nI a.top) 11 = nI (a.top * 2048) := pk_shlN _ 11 (by decide) (by omega)
  have e2 : (if unmB a.w a.told = false then (0 : Int32) else 128) = nI (if unmB a.w a.told then 128 else 0) := by cases unmB a.w a.told <;> rfl
  have l : (if unmB a.w a.told then 128 else 0) = 0 ∨ (if unmB a.w a.told then 128 else 0) = 128 := by cases unmB a.w a.told <;> decide
  have l2 : (if unmB a.w a.told then 128 else 0) < 2 ^ 8 := by cases unmB a.w a.told <;> decide
  have o1 : a.told ||| (if unmB a.w a.told then 128 else 0) < 2 ^ 8 := Nat.or_lt_two_pow (by omega) l2
  have o2 : (a.told ||| (if unmB a.w a.told then 128 else 0)) ||| cndN a.c0 a.c1 a.c2 a.c3 < 2 ^ 15 := Nat.or_lt_two_pow (Nat.lt_of_lt_of_le o1 (by decide)) c
  unfold f_PS_status statN
  try dsimp only
  rw [h.told, h.w, h.c, h.top]
  simp only [unm_C o ha.w]
  rw [e2, e1, nI_or _ _ (by omega) (Nat.lt_of_lt_of_le l2 (by decide)), nI_or _ _ (Nat.lt_of_lt_of_le o1 (by decide)) (by omega), nI_or _ _ (Nat.lt_of_lt_of_le o2 (by decide)) (by omega), stat_or o l (cnd_split _ _ _ _) t]
def unmI (w t : Nat) : Nat → Bool
  | 0 => false
  | i + 1 => unmI w t i || (t.testBit i && !w.testBit i)
theorem status_M {K : K6} {a : Ab} {τ : St} (h : RM a τ) (ha : AOK K a) : f_M_status τ = nI (statN a) := by
  have tp := ha.top
  have o := ha.told
  have c := cnd_lt a.c0 a.c1 a.c2 a.c3
  have lp : (lpn (b_M_status_4 τ) 129 (1, false)).2 = unmI a.w a.told 6 := by
    refine lpn_P (b := b_M_status_4 τ) (fun i t => t = (nI (2 ^ i), unmI a.w a.told i)) (fun y => y.2 = unmI a.w a.told 6) 6 ?_ ?_ (by decide) rfl
    · intro i t hi et
      subst et
      have p : (2 : Nat) ^ i ≤ 2 ^ 5 := Nat.pow_le_pow_right (by decide) (by omega)
      have e5 : (2 : Nat) ^ 5 = 32 := rfl
      have c1 : ¬ (64 : Int32) ≤ nI (2 ^ i) := nI_ge (b := 64) (by omega) (by decide)
      have a1 : jrem (nI a.told / nI (2 ^ i)) 2 = nI (a.told / 2 ^ i % 2) := rem_M (w := a.told) (by omega) (2 ^ i) 2 (pow_pos2 i) (by omega) (by decide) (by decide)
      have a2 : jrem (nI a.w / nI (2 ^ i)) 2 = nI (a.w / 2 ^ i % 2) := rem_M ha.w (2 ^ i) 2 (pow_pos2 i) (by omega) (by decide) (by decide)
      have b1 : (nI (a.told / 2 ^ i % 2) = 1) ↔ a.told / 2 ^ i % 2 = 1 := nI_eq (b := 1) (by omega) (by decide)
      have b2 : (nI (a.w / 2 ^ i % 2) = 0) ↔ a.w / 2 ^ i % 2 = 0 := nI_eq0 (by omega)
      have d : (2 : Int32) * nI (2 ^ i) = nI (2 ^ (i + 1)) := by
        have : (2 : Int32) * nI (2 ^ i) = nI (2 * 2 ^ i) := pk_mul 2 _
        rw [this, Nat.pow_succ, Nat.mul_comm]
      refine ⟨(nI (2 ^ (i + 1)), unmI a.w a.told (i + 1)), ?_, rfl⟩
      unfold b_M_status_4
      simp only [c1, if_false, h.told, h.w, a1, a2, b1, b2, d]
      have e : (if unmI a.w a.told i = true then true else if a.told / 2 ^ i % 2 = 1 then (if a.w / 2 ^ i % 2 = 0 then true else false) else false) = unmI a.w a.told (i + 1) := by
        show _ = (unmI a.w a.told i || (a.told.testBit i && !a.w.testBit i))
        rw [ntb, ntb]
        rcases Nat.mod_two_eq_zero_or_one (a.w / 2 ^ i) with z | z <;> rcases Nat.mod_two_eq_zero_or_one (a.told / 2 ^ i) with y | y <;> cases unmI a.w a.told i <;> simp [z, y]
      rw [e]
    · intro t et
      subst et
      have c1 : (64 : Int32) ≤ nI (2 ^ 6) := by decide
      refine ⟨(nI (2 ^ 6), unmI a.w a.told 6), ?_, rfl⟩
      unfold b_M_status_4
      simp only [c1, if_true]
  have ub : unmI a.w a.told 6 = unmB a.w a.told := by
    show (((((((false || _) || _) || _) || _) || _) || _)) = _
    rw [Bool.false_or]
    rfl
  have e2 : (if unmB a.w a.told = true then (128 : Int32) else 0) = nI (if unmB a.w a.told then 128 else 0) := by cases unmB a.w a.told <;> rfl
  have e3 : (2048 : Int32) * nI a.top = nI (2048 * a.top) := pk_mul 2048 _
  unfold f_M_status statN
  try dsimp only
  rw [lp, ub, e2, h.told, h.c, h.top, e3, nI_add, nI_add, nI_add]
theorem statN_lt {K : K6} {a : Ab} (ha : AOK K a) : statN a < 65536 := by
  have t := ha.top
  have o := ha.told
  have c := cnd_lt a.c0 a.c1 a.c2 a.c3
  unfold statN
  split <;> omega
/-! tags -/
def tagN (A : Re) (e : Bool) : Nat := if e then 3 else if isNil A.2.1 A.2.2 then 1 else if kindN A.2.1 A.2.2 = 3 then 0 else 2
def tagsN (a : Ab) : Nat → Nat
  | 0 => 0
  | k + 1 => 4 * tagsN a k + tagN (a.r (7 - k)) (a.e (7 - k))
theorem tagN_lt (A : Re) (e : Bool) : tagN A e < 4 := by
  unfold tagN
  (repeat' split) <;> decide
theorem tagsN_lt (a : Ab) : ∀ k, tagsN a k < 4 ^ k
  | 0 => (show 0 < 1 by decide)
  | k + 1 => by
    have h1 := tagsN_lt a k
    have h2 := tagN_lt (a.r (7 - k)) (a.e (7 - k))
    show 4 * tagsN a k + tagN (a.r (7 - k)) (a.e (7 - k)) < 4 ^ (k + 1)
    rw [Nat.pow_succ]
    omega
theorem tags8 (a : Ab) : tagsN a 8 < 65536 := tagsN_lt a 8
theorem dnW_step {v : Int32} {k : Nat} (hk : k < 8) (hv : v.toInt = 7 - (k : Int)) : v = nI (7 - k) ∧ (v + (-1)).toInt = 7 - ((k + 1 : Nat) : Int) ∧ ¬ v < 0 ∧ jat v = 7 - k := by
  have e : v = nI (7 - k) := by
    apply Int32.toInt_inj.mp
    rw [hv, nI_toInt (by omega)]
    omega
  have em : (-1 : Int32).toInt = -1 := by decide
  refine ⟨e, ?_, ?_, ?_⟩
  · rw [i32_addT (by omega) (by omega), hv, em]
    omega
  · rw [e]
    exact nI_pos (by omega)
  · rw [e]
    exact nI_clamp (by omega)
theorem tag_C {σ : St} {x : Nat} {A : Re} (h : RealIs σ x A.1 A.2.1 A.2.2) : f_Real_tag σ x = nI (tagN A false) := by
  have k3 : (nI (kindN A.2.1 A.2.2) = 3) ↔ kindN A.2.1 A.2.2 = 3 := nI_eq (b := 3) (kind_lt _ _) (by decide)
  unfold f_Real_tag tagN
  try dsimp only
  rw [nil_N h, kind_N h, if_neg Bool.false_ne_true]
  simp only [k3]
  cases isNil A.2.1 A.2.2 with
  | true => rfl
  | false =>
    simp only [Bool.false_eq_true, if_false]
    by_cases q : kindN A.2.1 A.2.2 = 3
    · rw [if_pos q, if_pos q]
      rfl
    · rw [if_neg q, if_neg q]
      rfl
theorem tags_C {a : Ab} {σ : St} (h : RC a σ) : f_PS_tags σ = nI (tagsN a 8) := by
  unfold f_PS_tags
  try dsimp only
  refine lpn_P (b := b_PS_tags_5 σ) (fun k t => t.1.toInt = 7 - (k : Int) ∧ t.2 = nI (tagsN a k)) (fun y => y.2 = nI (tagsN a 8)) 8 ?_ ?_ (by decide) ⟨by decide, rfl⟩
  · intro k t hk ⟨t1, t2⟩
    obtain ⟨v, b⟩ := t
    simp only at t1 t2
    obtain ⟨d1, d2, d3, d4⟩ := dnW_step hk t1
    have tl := tagsN_lt a k
    have p : (4 : Nat) ^ k ≤ 4 ^ 7 := Nat.pow_le_pow_right (by decide) (by omega)
    have e7 : (4 : Nat) ^ 7 = 16384 := rfl
    have gl := tagN_lt (a.r (7 - k)) (a.e (7 - k))
    have e3 : (if a.e (7 - k) = true then (3 : Int32) else nI (tagN (a.r (7 - k)) false)) = nI (tagN (a.r (7 - k)) (a.e (7 - k))) := by
      cases a.e (7 - k) with
      | true => rfl
      | false => rfl
    have e4 : jshl (nI (tagsN a k)) 2 = nI (tagsN a k * 2 ^ 2) := pk_shlN _ 2 (by decide) (by omega)
    refine ⟨(v + (-1), nI (tagsN a (k + 1))), ?_, d2, rfl⟩
    unfold b_PS_tags_5
    simp only [d3, if_false, d4, h.e _ (show 7 - k < 8 by omega), tag_C (h.r _ (show 7 - k < 8 by omega)), e3, t2, e4]
    rw [nI_or _ _ (by omega) (by omega), or_add (by omega)]
    show (true, v + -1, nI (tagsN a k * 2 ^ 2 + tagN (a.r (7 - k)) (a.e (7 - k)))) = (true, v + -1, nI (4 * tagsN a k + tagN (a.r (7 - k)) (a.e (7 - k))))
    rw [Nat.mul_comm 4]
  · intro t ⟨t1, t2⟩
    obtain ⟨v, b⟩ := t
    simp only at t1 t2
    have c1 : v < 0 := Int32.lt_iff_toInt_lt.mpr (by rw [t1]; decide)
    refine ⟨(v, b), ?_, t2⟩
    unfold b_PS_tags_5
    simp only [c1, if_true]
theorem tag_M {A : Re} {f : Int64} (hp : A.2.1 ≤ 32767) (hf : uN f = A.2.2) (e : Bool) : (if e = true then (3 : Int32) else if 32767 ≤ nI A.2.1 then f_M_tags_b77 (nI A.2.1) (if jlshr f 63 &&& 1 = 1 then true else false) else if f = 0 then 1 else f_M_tags_b77 (nI A.2.1) (if jlshr f 63 &&& 1 = 1 then true else false)) = nI (tagN A e) := by
  have bF := uN_lt f
  rw [hf] at bF
  have c1 : ((32767 : Int32) ≤ nI A.2.1) ↔ A.2.1 = 32767 := by
    have : ((32767 : Int32) ≤ nI A.2.1) ↔ 32767 ≤ A.2.1 := nI_leI (a := 32767) (by decide) (by omega)
    rw [this]
    omega
  have c2 : (f = 0) ↔ A.2.2 = 0 := by rw [uN_eq0, hf]
  have c3 : (jlshr f 63 &&& 1 = 1) ↔ ¬ A.2.2 < 9223372036854775808 := by
    rw [bit1 f (y := 63) 63 rfl (by decide), hf, ntb]
    have e63 : (2 : Nat) ^ 63 = 9223372036854775808 := rfl
    rw [e63, decide_eq_true_iff]
    omega
  have c4 : (nI A.2.1 ≤ 0) ↔ A.2.1 = 0 := by
    have : (nI A.2.1 ≤ nI 0) ↔ A.2.1 ≤ 0 := nI_leI (by omega) (by decide)
    rw [show (0 : Int32) = nI 0 from rfl, this]
    omega
  unfold f_M_tags_b77 tagN isNil kindN
  try dsimp only
  simp only [c1, c2, c3, c4]
  cases e with
  | true => rfl
  | false =>
    simp only [Bool.false_eq_true, if_false]
    by_cases p1 : A.2.1 = 32767
    · by_cases q1 : A.2.2 % 9223372036854775808 = 0 <;> simp [p1, q1] <;> rfl
    · by_cases p2 : A.2.1 = 0
      · by_cases p3 : A.2.2 = 0 <;> simp [p2, p3] <;> rfl
      · by_cases p3 : A.2.2 = 0
        · simp [p1, p2, p3]
          rfl
        · by_cases p4 : A.2.2 < 9223372036854775808 <;> simp [p1, p2, p3, p4] <;> rfl
theorem tags_M {a : Ab} {τ : St} (h : RM a τ) : f_M_tags τ = nI (tagsN a 8) := by
  unfold f_M_tags
  try dsimp only
  refine lpn_P (b := b_M_tags_5 τ) (fun k t => t.1.toInt = 7 - (k : Int) ∧ t.2 = nI (tagsN a k)) (fun y => y.2 = nI (tagsN a 8)) 8 ?_ ?_ (by decide) ⟨by decide, rfl⟩
  · intro k t hk ⟨t1, t2⟩
    obtain ⟨v, b⟩ := t
    simp only at t1 t2
    obtain ⟨d1, d2, d3, d4⟩ := dnW_step hk t1
    obtain ⟨h1, h2, h3⟩ := h.r _ (show 7 - k < 8 by omega)
    have e4 : (4 : Int32) * nI (tagsN a k) = nI (4 * tagsN a k) := pk_mul 4 _
    refine ⟨(v + (-1), nI (tagsN a (k + 1))), ?_, d2, rfl⟩
    unfold b_M_tags_5
    simp only [d3, if_false, d4, h.e _ (show 7 - k < 8 by omega), h1, top_power h3, tag_M h3 h2, t2, e4, nI_add]
    rfl
  · intro t ⟨t1, t2⟩
    obtain ⟨v, b⟩ := t
    simp only at t1 t2
    have c1 : v < 0 := Int32.lt_iff_toInt_lt.mpr (by rw [t1]; decide)
    refine ⟨(v, b), ?_, t2⟩
    unfold b_M_tags_5
    simp only [c1, if_true]
