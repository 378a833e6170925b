/-! operations and comparisons, class and reference side by side -/
def reR (R : Ra) : Re := (R.1, R.2.1.toNat, R.2.2)
theorem RealIs_Ra {τ : St} {x : Nat} {R : Ra} (h : RaIs τ x R) : RealIs τ x (reR R).1 (reR R).2.1 (reR R).2.2 ∧ (reR R).2.1 ≤ 32767 := by
  obtain ⟨h1, h2, h3, h4, h5⟩ := h
  have l : R.2.1.toNat ≤ 32767 := by omega
  refine ⟨⟨h1, ?_, h3, l⟩, l⟩
  apply Int32.toInt_inj.mp
  show _ = (nI R.2.1.toNat).toInt
  rw [h2, nI_toInt (by omega)]
  omega
theorem top_Ra {p v : Int32} {R : Ra} (hv : v = (if R.1 = true then 32768 else 0) + p) (hp : p.toInt = R.2.1) (h0 : 0 ≤ R.2.1) (h1 : R.2.1 ≤ 32767) : v = nI (topN (reR R)) := by
  rw [top_sum, hv]
  congr 1
  apply Int32.toInt_inj.mp
  show _ = (nI R.2.1.toNat).toInt
  rw [hp, nI_toInt (by omega)]
  omega
theorem ends_A {K : K6} {a : Ab} {σ : St} (h : RC a σ) (ha : AOK K a) : f_Ctl_ends σ = endsN a.w a.now := ends_N h.w ha.w h.now ha.now
theorem nowA_ne {a : Ab} {T : Nat} (h : endsN a.w a.now = false) : endsN (nowA a T).w (nowA a T).now = endsN a.w T := by
  show endsN a.w (a.now ||| T) = _
  rw [endsN_or, h, Bool.false_or]
def XIs (τ : St) (B : Re) : Prop := gI τ 13 30 = nI (topN B) ∧ uN (gJ τ 14 30) = B.2.2 ∧ B.2.1 ≤ 32767
def same3 (τ ρ : St) : Prop := gI ρ 10 30 = gI τ 10 30 ∧ gI ρ 11 30 = gI τ 11 30 ∧ gI ρ 12 30 = gI τ 12 30
theorem same3_X {τ ρ : St} (f : frX τ ρ) : same3 τ ρ := ⟨(f.1 10 30 (by decide)).1, (f.1 11 30 (by decide)).1, (f.1 12 30 (by decide)).1⟩
theorem same3_trans {τ ρ ν : St} (f : same3 τ ρ) (g : same3 ρ ν) : same3 τ ν := ⟨g.1.trans f.1, g.2.1.trans f.2.1, g.2.2.trans f.2.2⟩
theorem same3_refl (τ : St) : same3 τ τ := ⟨rfl, rfl, rfl⟩
def RkOut (K : K6) (τ σ1 τ1 : St) (x : Nat) : Prop := ∃ b, AOK K b ∧ RM b τ1 ∧ same3 τ τ1 ∧ ((gZ τ1 9 30 = true ∧ RC b σ1) ∨ (gZ τ1 9 30 = false ∧ RC (if x = 0 then b else popA b) σ1))
/-- an operation's outcome is kept -/
theorem op_keep {K : K6} {a : Ab} {σ s τ t1 : St} {R : Nat × Ra} {k : Nat} (ha : AOK K a) (hc : RC a σ) (hm : RM a τ) (ov : gZ τ 9 30 = false) (ne : endsN a.w a.now = false) (hk : k < 8) (oc : Outc σ s a.w a.now 14 R) (xo : XOut τ t1 a.w R) (x : Nat) : RkOut K τ (if f_Ctl_ends s = true then s else if x = 0 then f_PS_keep s (nI k) 14 else f_PS_pop (f_PS_keep s (nI k) 14)) (if gZ t1 9 30 = true then t1 else f_M_becomeX t1 (nI k)) x := by
  obtain ⟨o1, o2, o3, o4⟩ := oc
  obtain ⟨x1, x2, x3, x4, x5⟩ := xo
  have n6 := ha.now
  have hb : AOK K (nowA a R.1) := AOK_now ha o3
  have rc : RC (nowA a R.1) s := RC_P hc (frP_R o1 (by decide)) o2
  have g8 : gI t1 8 30 = nI (a.now ||| R.1) := by
    rw [x2, hm.now, nI_or _ _ (by omega) (by omega)]
  have rm : RM (nowA a R.1) t1 := RM_X hm x1 g8
  rw [ends_A rc hb, nowA_ne ne, x4, ov, Bool.false_or]
  cases he : endsN a.w R.1 with
  | true =>
    rw [if_pos (rfl : true = true), if_pos (rfl : true = true)]
    exact ⟨_, hb, rm, same3_X x1, Or.inl ⟨by rw [x4, ov, he]; rfl, rc⟩⟩
  | false =>
    rw [if_neg Bool.false_ne_true, if_neg Bool.false_ne_true]
    obtain ⟨r1, r2, r3, r4, r5⟩ := o4 he
    obtain ⟨p, p1, p2, p3⟩ := x5 he
    obtain ⟨ra, rl⟩ := RealIs_Ra (R := R.2) ⟨r1, r2, r3, r4, r5⟩
    have tp := top_Ra p1 p2 r4 r5
    obtain ⟨k1, -, -, -⟩ := keep_C rc hb hk (by decide) ra
    obtain ⟨b1, b2, b3, b4⟩ := becomeX_M rm hb hk tp (R := reR R.2) p3 rl
    have hb2 := AOK_keep hb k rl
    refine ⟨keepA (nowA a R.1) k (reR R.2), hb2, b1, same3_trans (same3_X x1) ⟨b2 10 30 (by decide), b2 11 30 (by decide), b2 12 30 (by decide)⟩, Or.inr ⟨?_, ?_⟩⟩
    · rw [b4 9 30 (by decide), x4, ov, he]
      rfl
    · by_cases z : x = 0
      · rw [if_pos z, if_pos z]
        exact k1
      · rw [if_neg z, if_neg z]
        exact pop_C k1 hb2
theorem arith_J {K : K6} {a : Ab} {σ τ : St} {r k x : Nat} {B : Re} (ha : AOK K a) (hc : RC a σ) (hm : RM a τ) (ov : gZ τ 9 30 = false) (ne : endsN a.w a.now = false) (hr : r = 0 ∨ r = 1 ∨ r = 4 ∨ r = 5 ∨ r = 6 ∨ r = 7) (hk : k < 8) (hx : x < 8) (hA : RealIs σ 12 (regN a 0).1 (regN a 0).2.1 (regN a 0).2.2) (hB : RealIs σ 13 B.1 B.2.1 B.2.2) (xB : XIs τ B) (g11 : gI τ 11 30 = nI r) : RkOut K τ (f_PS_combine σ (nI r) (nI k) (nI x)) (f_M_reckon τ (nI k)) x := by
  obtain ⟨tA, fA⟩ := of_M hm ha (k := 0) (by decide)
  have pA := regN_ok ha 0
  have tA' : f_M_topOf τ 0 = nI (topN (regN a 0)) := tA
  have fA' : uN (f_M_fractionOf τ 0) = (regN a 0).2.2 := fA
  have cx : (nI x ≤ 0) ↔ x = 0 := by
    have : (nI x ≤ nI 0) ↔ x ≤ 0 := nI_leI (by omega) (by decide)
    rw [show (0 : Int32) = nI 0 from rfl, this]
    omega
  have key : ∀ (o Kd p q : Nat) (P Q : Re), o ≤ 6 → Kd ≤ 4 → RealIs σ p P.1 P.2.1 P.2.2 → RealIs σ q Q.1 Q.2.1 Q.2.2 → p ≠ 14 → q ≠ 14 → opS Kd a.w P Q = opS (kOf o) a.w (ordA o (regN a 0) B) (ordB o (regN a 0) B) → RkOut K τ (if f_Ctl_ends (f_Oper_operate σ (nI Kd) p q 14) = true then f_Oper_operate σ (nI Kd) p q 14 else if x = 0 then f_PS_keep (f_Oper_operate σ (nI Kd) p q 14) (nI k) 14 else f_PS_pop (f_PS_keep (f_Oper_operate σ (nI Kd) p q 14) (nI k) 14)) (if gZ (f_M_operate τ (nI o) (nI (topN (regN a 0))) (f_M_fractionOf τ 0) (nI (topN B)) (gJ τ 14 30)) 9 30 = true then f_M_operate τ (nI o) (nI (topN (regN a 0))) (f_M_fractionOf τ 0) (nI (topN B)) (gJ τ 14 30) else f_M_becomeX (f_M_operate τ (nI o) (nI (topN (regN a 0))) (f_M_fractionOf τ 0) (nI (topN B)) (gJ τ 14 30)) (nI k)) x := by
    intro o Kd p q P Q ho hK hP hQ n1 n2 e
    have oc := operate_C hK hc.w ha.w hc.now ha.now ne hP hQ n1 n2
    have xo := Moperate_M ho hm.w ha.w fA' xB.2.1 pA xB.2.2
    rw [e] at oc
    exact op_keep ha hc hm ov ne hk oc xo x
  unfold f_PS_combine f_M_reckon
  try dsimp only
  rw [ends_A hc ha, ne, if_neg Bool.false_ne_true, g11, tA', xB.1]
  try dsimp only
  simp only [cx]
  rcases hr with rfl | rfl | rfl | rfl | rfl | rfl
  · exact key 0 0 12 13 (regN a 0) B (by decide) (by decide) hA hB (by decide) (by decide) rfl
  · exact key 3 2 12 13 (regN a 0) B (by decide) (by decide) hA hB (by decide) (by decide) rfl
  · exact key 1 1 12 13 (regN a 0) B (by decide) (by decide) hA hB (by decide) (by decide) rfl
  · exact key 2 1 13 12 B (regN a 0) (by decide) (by decide) hB hA (by decide) (by decide) rfl
  · exact key 4 3 12 13 (regN a 0) B (by decide) (by decide) hA hB (by decide) (by decide) rfl
  · exact key 5 3 13 12 B (regN a 0) (by decide) (by decide) hB hA (by decide) (by decide) rfl
/-! conditions -/
theorem cond_RC {a : Ab} {σ : St} (h : RC a σ) (c0 c1 c2 c3 : Bool) {v : Int32} (hv : v = nI (cndN c0 c1 c2 c3)) : RC (Ab.mk17 a.m a.r a.e a.top a.w a.told (c0) (c1) (c2) (c3) a.kc a.kp a.ko a.lc a.lp a.lo a.now) (sI σ 2 0 v) := sI_RC h rfl rfl rfl (by decide) (by rw [eq_gI (by decide)]; exact h.top) (by rw [eq_gI (by decide)]; exact h.w) (by rw [eq_gI (by decide)]; exact h.told) (by rw [self_gI]; exact hv) (by rw [eq_gI (by decide)]; exact h.kc) (by rw [eq_gI (by decide)]; exact h.kp) (by rw [eq_gI (by decide)]; exact h.ko) (by rw [eq_gI (by decide)]; exact h.now)
theorem cond_RM {a : Ab} {τ : St} (h : RM a τ) (c0 c1 c2 c3 : Bool) {v : Int32} (hv : v = nI (cndN c0 c1 c2 c3)) : RM (Ab.mk17 a.m a.r a.e a.top a.w a.told (c0) (c1) (c2) (c3) a.kc a.kp a.ko a.lc a.lp a.lo a.now) (sI τ 4 30 v) := sI_RM h rfl rfl rfl (by decide) (by rw [eq_gI (by decide)]; exact h.top) (by rw [eq_gI (by decide)]; exact h.w) (by rw [eq_gI (by decide)]; exact h.told) (by rw [self_gI]; exact hv) (by rw [eq_gI (by decide)]; exact h.kc) (by rw [eq_gI (by decide)]; exact h.kp) (by rw [eq_gI (by decide)]; exact h.ko) (by rw [eq_gI (by decide)]; exact h.now)
def cdV (v : Int32) (d : Int32) (b : Bool) : Int32 := v + (if b = (if jrem (v / d) 2 = 1 then true else false) then 0 else if b = true then d else -d)
theorem cdV_0 : ∀ c0 c1 c2 c3 b : Bool, cdV (nI (cndN c0 c1 c2 c3)) 256 b = nI (cndN b c1 c2 c3) := by decide
theorem cdV_1 : ∀ c0 c1 c2 c3 b : Bool, cdV (nI (cndN c0 c1 c2 c3)) 512 b = nI (cndN c0 b c2 c3) := by decide
theorem cdV_2 : ∀ c0 c1 c2 c3 b : Bool, cdV (nI (cndN c0 c1 c2 c3)) 1024 b = nI (cndN c0 c1 b c3) := by decide
theorem cdV_3 : ∀ c0 c1 c2 c3 b : Bool, cdV (nI (cndN c0 c1 c2 c3)) 16384 b = nI (cndN c0 c1 c2 b) := by decide
theorem cd_M (τ : St) (d : Int32) (b : Bool) : f_M_condition τ d b = sI τ 4 30 (cdV (gI τ 4 30) d b) := rfl
theorem cd0 {a : Ab} {τ : St} (h : RM a τ) (b : Bool) : RM (Ab.mk17 a.m a.r a.e a.top a.w a.told (b) a.c1 a.c2 a.c3 a.kc a.kp a.ko a.lc a.lp a.lo a.now) (f_M_condition τ 256 b) := by
  rw [cd_M, h.c]
  exact cond_RM h b a.c1 a.c2 a.c3 (cdV_0 _ _ _ _ _)
theorem cd1 {a : Ab} {τ : St} (h : RM a τ) (b : Bool) : RM (Ab.mk17 a.m a.r a.e a.top a.w a.told a.c0 (b) a.c2 a.c3 a.kc a.kp a.ko a.lc a.lp a.lo a.now) (f_M_condition τ 512 b) := by
  rw [cd_M, h.c]
  exact cond_RM h a.c0 b a.c2 a.c3 (cdV_1 _ _ _ _ _)
theorem cd2 {a : Ab} {τ : St} (h : RM a τ) (b : Bool) : RM (Ab.mk17 a.m a.r a.e a.top a.w a.told a.c0 a.c1 (b) a.c3 a.kc a.kp a.ko a.lc a.lp a.lo a.now) (f_M_condition τ 1024 b) := by
  rw [cd_M, h.c]
  exact cond_RM h a.c0 a.c1 b a.c3 (cdV_2 _ _ _ _ _)
theorem cd3 {a : Ab} {τ : St} (h : RM a τ) (b : Bool) : RM (Ab.mk17 a.m a.r a.e a.top a.w a.told a.c0 a.c1 a.c2 (b) a.kc a.kp a.ko a.lc a.lp a.lo a.now) (f_M_condition τ 16384 b) := by
  rw [cd_M, h.c]
  exact cond_RM h a.c0 a.c1 a.c2 b (cdV_3 _ _ _ _ _)
theorem cd_fr (τ : St) (d : Int32) (b : Bool) : (∀ j x, j ≠ 4 → gI (f_M_condition τ d b) j x = gI τ j x) ∧ (∀ j x, gJ (f_M_condition τ d b) j x = gJ τ j x) ∧ (∀ j x, gZ (f_M_condition τ d b) j x = gZ τ j x) := by
  rw [cd_M]
  exact ⟨fun j x q => eq_gI (fun e => q e.symm), fun _ _ => rfl, fun _ _ => rfl⟩
theorem cnd_and : ∀ c0 c1 c2 c3 : Bool, nI (cndN c0 c1 c2 c3) &&& 512 = nI (cndN false c1 false false) := by decide
theorem cnd_or2 : ∀ c1 : Bool, nI (cndN false c1 false false) ||| 17664 = nI (cndN true c1 true true) := by decide
theorem cnd_or0 : ∀ c1 : Bool, nI (cndN false c1 false false) ||| 16384 = nI (cndN false c1 false true) := by decide
theorem cnd_orm : ∀ c1 : Bool, nI (cndN false c1 false false) ||| 256 = nI (cndN true c1 false false) := by decide
/-! comparing -/
theorem cmpI_rng (a b : Int) : cmpI a b = 0 ∨ cmpI a b = -1 ∨ cmpI a b = 1 := by
  unfold cmpI
  split
  · exact Or.inl rfl
  · split
    · exact Or.inr (Or.inl rfl)
    · exact Or.inr (Or.inr rfl)
theorem cmpN_rng (a b : Nat) : cmpN a b = 0 ∨ cmpN a b = -1 ∨ cmpN a b = 1 := by
  unfold cmpN
  split
  · exact Or.inr (Or.inl rfl)
  · split
    · exact Or.inl rfl
    · exact Or.inr (Or.inr rfl)
theorem sgS_rng (A : Re) : sgS A = 0 ∨ sgS A = -1 ∨ sgS A = 1 := by
  unfold sgS
  split
  · exact Or.inl rfl
  · split
    · exact Or.inr (Or.inl rfl)
    · exact Or.inr (Or.inr rfl)
theorem ordS_rng (w : Nat) (A B : Re) : ordS w A B = 0 ∨ ordS w A B = -1 ∨ ordS w A B = 1 := by
  unfold ordS
  split
  · split
    · exact Or.inl rfl
    · exact cmpI_rng _ _
  · split
    · rcases sgS_rng A with z | z | z <;> rw [z] <;> rcases cmpN_rng (shS A B) (shB A B) with y | y | y <;> rw [y] <;> decide
    · exact cmpI_rng _ _
theorem compS_rng (w : Nat) (A B : Re) : (compS w A B).2 = 2 ∨ (compS w A B).2 = 0 ∨ (compS w A B).2 = -1 ∨ (compS w A B).2 = 1 := by
  unfold compS
  cases setS w A B (apartS w A B) with
  | some R => exact Or.inl rfl
  | none => exact Or.inr (ordS_rng w A B)
def cmpA (a : Ab) (o : Int) : Ab := (Ab.mk17 a.m a.r a.e a.top a.w a.told (decide (o = -1) || decide (o = 2)) a.c1 (decide (o = 2)) (decide (o = 0) || decide (o = 2)) a.kc a.kp a.ko a.lc a.lp a.lo a.now)
theorem AOK_cmp {K : K6} {a : Ab} (h : AOK K a) (o : Int) : AOK K (cmpA a o) := (AOK_mk h.m h.r h.top h.w h.told h.kc h.kp h.ko h.lc h.lp h.lo h.now h.kk)
theorem cmp_C {a : Ab} {s : St} (h : RC a s) {v : Int32} {o : Int} (hv : v.toInt = o) (ho : o = 2 ∨ o = 0 ∨ o = -1 ∨ o = 1) : RC (cmpA a o) (if v = 2 then sI (sI s 2 0 (gI s 2 0 &&& 512)) 2 0 (gI (sI s 2 0 (gI s 2 0 &&& 512)) 2 0 ||| 17664) else if 0 < v then sI s 2 0 (gI s 2 0 &&& 512) else sI (sI s 2 0 (gI s 2 0 &&& 512)) 2 0 (gI (sI s 2 0 (gI s 2 0 &&& 512)) 2 0 ||| (if 0 ≤ v then 16384 else 256))) := by
  rw [self_gI, h.c, cnd_and, sI_sI, sI_sI]
  rcases ho with rfl | rfl | rfl | rfl
  · have e : v = 2 := Int32.toInt_inj.mp (by rw [hv]; decide)
    rw [e, if_pos rfl]
    exact cond_RC h true a.c1 true true (cnd_or2 _)
  · have e : v = 0 := Int32.toInt_inj.mp (by rw [hv]; decide)
    rw [e, if_neg (by decide), if_neg (by decide), if_pos (by decide)]
    exact cond_RC h false a.c1 false true (cnd_or0 _)
  · have e : v = -1 := Int32.toInt_inj.mp (by rw [hv]; decide)
    rw [e, if_neg (by decide), if_neg (by decide), if_neg (by decide)]
    exact cond_RC h true a.c1 false false (cnd_orm _)
  · have e : v = 1 := Int32.toInt_inj.mp (by rw [hv]; decide)
    rw [e, if_neg (by decide), if_pos (by decide)]
    exact cond_RC h false a.c1 false false rfl
theorem cmp_M {a : Ab} {t : St} (h : RM a t) {v : Int32} {o : Int} (hv : v.toInt = o) (ho : o = 2 ∨ o = 0 ∨ o = -1 ∨ o = 1) : RM (cmpA a o) (f_M_condition (f_M_condition (f_M_condition t 256 (if v = -1 then true else if v = 2 then true else false)) 1024 (if v = 2 then true else false)) 16384 (if v = 0 then true else if v = 2 then true else false)) := by
  have b1 : (if v = -1 then true else if v = 2 then true else false) = (decide (o = -1) || decide (o = 2)) ∧ (if v = 2 then true else false) = decide (o = 2) ∧ (if v = 0 then true else if v = 2 then true else false) = (decide (o = 0) || decide (o = 2)) := by
    rcases ho with rfl | rfl | rfl | rfl
    · have e : v = 2 := Int32.toInt_inj.mp (by rw [hv]; decide)
      rw [e]
      decide
    · have e : v = 0 := Int32.toInt_inj.mp (by rw [hv]; decide)
      rw [e]
      decide
    · have e : v = -1 := Int32.toInt_inj.mp (by rw [hv]; decide)
      rw [e]
      decide
    · have e : v = 1 := Int32.toInt_inj.mp (by rw [hv]; decide)
      rw [e]
      decide
  rw [b1.1, b1.2.2, b1.2.1]
  exact cd3 (cd2 (cd0 h _) _) _
theorem told0 {τ : St} : f_MS_told τ 0 = (gI τ 28 42, sI τ 26 42 0) := by
  have c1 : ¬ (0 : Int32) < 0 := by decide
  have c2 : (0 : Int32) ≤ 3 := by decide
  have g : gI (sI τ 26 42 (bI false)) 26 42 ≤ 0 := by
    rw [self_gI]
    decide
  have e : bI false = (0 : Int32) := rfl
  unfold f_MS_told
  try dsimp only
  rw [if_neg c1, if_pos c2, if_pos g, if_pos (rfl : (0 : Int32) = 0), e]
  rw [eq_gI (by decide)]
/-- the class's pops after a comparison -/
def popsA : Nat → Ab → Ab
  | 0, a => a
  | n + 1, a => popA (popsA n a)
theorem AOK_pops {K : K6} {a : Ab} (h : AOK K a) : ∀ n, AOK K (popsA n a)
  | 0 => h
  | n + 1 => AOK_pop (AOK_pops h n)
theorem pops_C {K : K6} {a : Ab} {s : St} (h : RC a s) (ha : AOK K a) {n : Nat} (hn : n < 8) : RC (popsA n a) (lpn (b_PS_compare_102 (nI n)) (upf (nI n) 0) (0, s)).2 := by
  refine lpn_P (b := b_PS_compare_102 (nI n)) (fun i t => t.1 = nI i ∧ RC (popsA i a) t.2) (fun y => RC (popsA n a) y.2) n ?_ ?_ ?_ ?_
  · intro i t hi ⟨t1, t2⟩
    obtain ⟨v, s1⟩ := t
    simp only at t1 t2
    subst t1
    have c1 : ¬ nI n ≤ nI i := nI_ge (by omega) (by omega)
    refine ⟨(nI (i + 1), f_PS_pop s1), ?_, rfl, pop_C t2 (AOK_pops ha i)⟩
    unfold b_PS_compare_102
    simp only [c1, if_false, nI_1]
  · intro t ⟨t1, t2⟩
    obtain ⟨v, s1⟩ := t
    simp only at t1 t2
    subst t1
    have c1 : nI n ≤ nI n := nI_le (by omega) (by omega)
    refine ⟨(nI n, s1), ?_, t2⟩
    unfold b_PS_compare_102
    simp only [c1, if_true]
  · unfold upf
    rw [nI_toInt (by omega)]
    show n < ((n : Int) - 0).toNat + 1
    omega
  · exact ⟨rfl, h⟩
/-- the comparison itself -/
theorem compare_J {K : K6} {a : Ab} {σ τ : St} {n : Nat} {tst : Bool} {B : Re} (ha : AOK K a) (hc : RC a σ) (hm : RM a τ) (ov : gZ τ 9 30 = false) (ne : endsN a.w a.now = false) (hn : n < 8) (hA : RealIs σ 12 (regN a 0).1 (regN a 0).2.1 (regN a 0).2.2) (hB : RealIs σ 13 B.1 B.2.1 B.2.2) (xB : tst = false → XIs τ B) (xT : tst = true → B = zeroR ∧ ∃ C, XIs τ C) : ∃ b, AOK K b ∧ RM b (f_M_compare τ tst) ∧ same3 τ (f_M_compare τ tst) ∧ ((gZ (f_M_compare τ tst) 9 30 = true ∧ RC b (f_PS_compare σ (nI n))) ∨ (gZ (f_M_compare τ tst) 9 30 = false ∧ RC (popsA n b) (f_PS_compare σ (nI n)))) := by
  obtain ⟨tA, fA⟩ := of_M hm ha (k := 0) (by decide)
  have pA := regN_ok ha 0
  have n6 := ha.now
  obtain ⟨C, xC, hC⟩ : ∃ C, XIs τ C ∧ (tst = false → C = B) := by
    cases tst with
    | true => exact ⟨_, (xT rfl).2.choose_spec, fun q => by cases q⟩
    | false => exact ⟨B, xB rfl, fun _ => rfl⟩
  obtain ⟨g1, g2, g3, -⟩ := give_M (r := 0) (by decide) hm.w ha.w fA pA
  obtain ⟨c1, c2, c3, c4⟩ := compare_C hc.w ha.w hc.now ha.now ne hA hB (show 12 ≠ 14 by decide) (show 13 ≠ 14 by decide)
  have cr := compS_rng a.w (regN a 0) B
  unfold f_M_compare f_PS_compare
  try dsimp only
  rw [ends_A hc ha, ne, if_neg Bool.false_ne_true]
  try dsimp only
  have e0 : f_M_giveSteps τ 0 (f_M_topOf τ 0) (f_M_fractionOf τ 0) = f_M_giveSteps τ (nI 0) (nI (topN (regN a 0))) (f_M_fractionOf τ (nI 0)) := by
    rw [← tA]
    rfl
  rw [e0]
  generalize f_M_giveSteps τ (nI 0) (nI (topN (regN a 0))) (f_M_fractionOf τ (nI 0)) = s1 at *
  have x13 : gI s1 13 30 = nI (topN C) := by rw [(g1 13 30 (by decide) (by decide) (by decide)).1]; exact xC.1
  have x14 : uN (gJ s1 14 30) = C.2.2 := by rw [(g1 14 30 (by decide) (by decide) (by decide)).2.1]; exact xC.2.1
  have w1 : gI s1 2 30 = nI a.w := by rw [(g1 2 30 (by decide) (by decide) (by decide)).1]; exact hm.w
  obtain ⟨i1, i2, i3, i4⟩ := give_M (r := 1) (by decide) w1 ha.w x14 xC.2.2
  have i5 := i4 0 _ (by decide) g3
  have e1 : f_M_giveSteps s1 1 (gI s1 13 30) (gJ s1 14 30) = f_M_giveSteps s1 (nI 1) (nI (topN C)) (gJ s1 14 30) := by
    rw [← x13]
    rfl
  rw [e1]
  generalize f_M_giveSteps s1 (nI 1) (nI (topN C)) (gJ s1 14 30) = s2 at *
  have co : COut s2 (if tst = true then ((f_MS_test s2 0).1, (f_MS_test s2 0).2) else ((f_MS_compare s2 0 1).1, (f_MS_compare s2 0 1).2)) a.w (compS a.w (regN a 0) B) := by
    cases ht : tst with
    | true =>
      rw [if_pos (rfl : true = true), (xT ht).1]
      exact test_M i5 i2 ha.w
    | false =>
      rw [if_neg Bool.false_ne_true]
      rw [hC ht] at i3
      exact compare_M i5 i3 i2 ha.w
  generalize (if tst = true then ((f_MS_test s2 0).1, (f_MS_test s2 0).2) else ((f_MS_compare s2 0 1).1, (f_MS_compare s2 0 1).2)) = r at *
  obtain ⟨o1, o2, o3, o4⟩ := co
  rw [told0]
  try dsimp only
  have f3 : frX τ (sI r.2 26 42 0) := frX_trans (frX_M g1) (frX_trans (frX_M i1) (frX_trans (frX_M o2) (frX_I _ 26 _ _ (by decide))))
  have g28 : gI r.2 28 42 = nI (compS a.w (regN a 0) B).1 := o3
  have fm := frM_trans g1 (frM_trans i1 o2)
  have w3 : gI (sI r.2 26 42 0) 2 30 = nI a.w := by rw [(f3.1 2 30 (by decide)).1]; exact hm.w
  have n3 : gI (sI r.2 26 42 0) 8 30 = nI a.now := by
    rw [eq_gI (by decide), (fm 8 30 (by decide) (by decide) (by decide)).1]
    exact hm.now
  have v3 : gZ (sI r.2 26 42 0) 9 30 = false := by
    show gZ r.2 9 30 = false
    rw [(fm 9 30 (by decide) (by decide) (by decide)).2.2]
    exact ov
  rw [g28, say_M w3 ha.w o4, n3, v3, Bool.false_or, nI_or _ _ (by omega) (by omega)]
  generalize sI r.2 26 42 0 = s3 at *
  generalize compS a.w (regN a 0) B = R at *
  have hb : AOK K (nowA a R.1) := AOK_now ha o4
  have rc : RC (nowA a R.1) (f_Steps_compare σ 12 13 14).2 := RC_P hc (frP_R c2 (by decide)) c3
  have fx : frX τ (sZ (sI s3 8 30 (nI (a.now ||| R.1))) 9 30 (endsN a.w R.1)) := frX_trans f3 (frX_trans (frX_I _ 8 _ _ (by decide)) (frX_Z _ 9 _ _ (by decide)))
  have rm : RM (nowA a R.1) (sZ (sI s3 8 30 (nI (a.now ||| R.1))) 9 30 (endsN a.w R.1)) := RM_X hm fx (by
    rw [gI_sZ]
    exact self_gI _ _ _ _)
  have z9 : gZ (sZ (sI s3 8 30 (nI (a.now ||| R.1))) 9 30 (endsN a.w R.1)) 9 30 = endsN a.w R.1 := by rw [gZ_sZ, if_pos rfl, if_pos rfl]
  rw [ends_A rc hb, nowA_ne ne, z9]
  generalize sZ (sI s3 8 30 (nI (a.now ||| R.1))) 9 30 (endsN a.w R.1) = s4 at *
  cases he : endsN a.w R.1 with
  | true =>
    rw [if_pos (rfl : true = true), if_pos (rfl : true = true)]
    exact ⟨_, hb, rm, same3_X fx, Or.inl ⟨by rw [z9, he], rc⟩⟩
  | false =>
    rw [if_neg Bool.false_ne_true, if_neg Bool.false_ne_true]
    have m1 := cmp_M rm (o1 he) cr
    have q1 := cmp_C rc c1 cr
    refine ⟨cmpA (nowA a R.1) R.2, AOK_cmp hb _, m1, ?_, Or.inr ⟨?_, ?_⟩⟩
    · refine same3_trans (same3_X fx) ?_
      refine ⟨?_, ?_, ?_⟩
      · rw [(cd_fr _ _ _).1 10 30 (by decide), (cd_fr _ _ _).1 10 30 (by decide), (cd_fr _ _ _).1 10 30 (by decide)]
      · rw [(cd_fr _ _ _).1 11 30 (by decide), (cd_fr _ _ _).1 11 30 (by decide), (cd_fr _ _ _).1 11 30 (by decide)]
      · rw [(cd_fr _ _ _).1 12 30 (by decide), (cd_fr _ _ _).1 12 30 (by decide), (cd_fr _ _ _).1 12 30 (by decide)]
    · rw [(cd_fr _ _ _).2.2 9 30, (cd_fr _ _ _).2.2 9 30, (cd_fr _ _ _).2.2 9 30, z9, he]
    · exact pops_C q1 (AOK_cmp hb _) hn
