/-! what is looked at first: no numbers, what can't be, denormal ones -/
def setS (w : Nat) (A B : Re) (cannot : Bool) : Option (Nat × Ra) :=
  if isNan A.2.1 A.2.2 || isNan B.2.1 B.2.2 then some (1, asRa (nanS A B))
  else if cannot then some (1, (true, 32767, 13835058055282163712))
  else if denS A B = 2 ∧ w / 2 % 2 = 0 then some (2, asRa A)
  else none
theorem settle_C {σ : St} {w t a b a4 : Nat} {A B : Re} {cn : Bool} (hs : gI σ 6 3 = nI w) (hw : w < 65536) (ht : gI σ 7 3 = nI t) (htt : t < 64) (hne : endsN w t = false) (ha : RealIs σ a A.1 A.2.1 A.2.2) (hb : RealIs σ b B.1 B.2.1 B.2.2) :
    (∃ (R : Nat × Ra) (τ : St), setS w A B cn = some R ∧ f_Ctl_settles σ a b cn a4 = (true, τ) ∧ Outc σ τ w t a4 R) ∨
    (setS w A B cn = none ∧ f_Ctl_settles σ a b cn a4 = (false, f_Ctl_tell σ (nI (denS A B))) ∧ (denS A B = 0 ∨ denS A B = 2) ∧ endsN w (denS A B) = false ∧ (isNan A.2.1 A.2.2 || isNan B.2.1 B.2.2) = false ∧ cn = false) := by
  unfold f_Ctl_settles f_Ctl_settles_b49 setS
  rcases noNumber_N (a4 := a4) ha hb with ⟨q1, q2⟩ | ⟨q1, x, q2, q3, q4⟩
  · simp only [q1, q2, Bool.false_eq_true, if_false]
    by_cases c1 : cn = true
    · left
      simp only [c1, if_true]
      exact ⟨_, _, rfl, rfl, Outc_set (T := 1) (frR_refl _ _) ht htt (by decide) (by decide) (by decide) (by decide)⟩
    · have c1' : cn = false := by simpa using c1
      simp only [c1', Bool.false_eq_true, if_false]
      have dn : (if f_Real_kind σ a = 1 then f_Ctl_tell σ 2 else if f_Real_kind σ b = 1 then f_Ctl_tell σ 2 else σ) = f_Ctl_tell σ (nI (denS A B)) := by
        simp only [den_N ha, den_N hb]
        unfold denS
        cases isDen A.2.1 A.2.2 <;> cases isDen B.2.1 B.2.2 <;> first | rfl | (simp [nI_0e, tell_0]; done)
      simp only [dn]
      have d2 : denS A B = 0 ∨ denS A B = 2 := by unfold denS; split <;> simp
      have f1 : frR a4 σ (f_Ctl_tell σ (nI (denS A B))) := frR_tell _ _ _
      have s1 : gI (f_Ctl_tell σ (nI (denS A B))) 6 3 = nI w := hs
      have t1 : gI (f_Ctl_tell σ (nI (denS A B))) 7 3 = nI (t ||| denS A B) := by rw [tell_7, ht, nI_or _ _ (by omega) (by omega)]
      have lt1 : t ||| denS A B < 64 := or_lt64 htt (by omega)
      have en := ends_N s1 hw t1 lt1
      rw [endsN_or, hne, Bool.false_or] at en
      have e2 : endsN w (denS A B) = decide (denS A B = 2 ∧ w / 2 % 2 = 0) := by
        unfold endsN
        rcases d2 with q | q <;> rw [q] <;> simp
      by_cases c2 : denS A B = 2 ∧ w / 2 % 2 = 0
      · left
        rw [if_pos c2]
        refine ⟨_, _, rfl, by rw [en, e2, decide_eq_true c2], ?_⟩
        refine ⟨f1, ?_, (show (2 : Nat) < 64 by decide), fun q => ?_⟩
        · rw [t1, c2.1]
        · have : endsN w 2 = true := by
            have := e2
            rw [c2.1] at this
            rw [this]
            simp [c2.2]
          have q' : endsN w 2 = false := q
          rw [this] at q'
          cases q'
      · right
        rw [if_neg c2]
        refine ⟨rfl, by rw [en, e2, decide_eq_false c2], d2, by rw [e2]; exact decide_eq_false c2, trivial, trivial⟩
  · left
    simp only [q1, q4, if_true]
    refine ⟨_, _, rfl, rfl, ?_⟩
    have e : f_Ctl_tell (f_Real_take σ a4 x) 1 = f_Real_set (f_Ctl_tell σ (nI 1)) a4 (gZ σ 15 x) (gI σ 16 x) (gJ σ 17 x) := by
      rw [take_set]
      apply St_ext <;> intro k y <;> simp only [f_Ctl_tell, f_Real_set, gI_sI, gI_sJ, gI_sZ, gJ_sI, gJ_sJ, gJ_sZ, gZ_sI, gZ_sJ, gZ_sZ, show (1 : Int32) = nI 1 from rfl] <;> grind
    rw [e, q3.1]
    refine Outc_set (P := (((nanS A B).2.1 : Nat) : Int)) (frR_refl _ _) ht htt (by decide) ?_ q3.2.2.1 ?_
    · rw [q3.2.1, nI_toInt (by have := q3.2.2.2; omega)]
    · have h : (nanS A B).2.1 ≤ 32767 := q3.2.2.2
      omega
/-! the reference's side -/
theorem skind_M {τ : St} {a : Int32} {i : Nat} {A : Re} (ja : jat a = i) (h : RegIs τ 110 111 i A) : f_MS_kind τ a = nI (kindN A.2.1 A.2.2) := by
  obtain ⟨h1, h2, h3⟩ := h
  have bF := uN_lt (gJ τ 111 i)
  have c1 : (nI A.2.1 = 32767) ↔ A.2.1 = 32767 := nI_eq (b := 32767) (by omega) (by decide)
  have c2 : (nI A.2.1 = 0) ↔ A.2.1 = 0 := nI_eq0 (by omega)
  have c4 : (gJ τ 111 i = 0) ↔ A.2.2 = 0 := by rw [uN_eq0, h2]
  have c5 : (0 ≤ gJ τ 111 i) ↔ A.2.2 < 9223372036854775808 := by rw [uN_nn, h2]
  have em : uN (-9223372036854775808) = 9223372036854775808 := rfl
  have c6 : (gJ τ 111 i = -9223372036854775808) ↔ A.2.2 = 9223372036854775808 := by rw [uN_eq, h2, em]
  rw [h2] at bF
  unfold f_MS_kind kindN
  simp only [ja, h1, top_power h3, c1, c2, c4, c5, c6]
  by_cases d1 : A.2.1 = 32767
  · simp only [d1, if_true]
    by_cases d4 : A.2.2 = 0
    · simp [d4]
      rfl
    · by_cases d6 : A.2.2 = 9223372036854775808
      · simp [d6]
        rfl
      · have : ¬ A.2.2 % 9223372036854775808 = 0 := by omega
        simp [d4, d6, this]
        rfl
  · by_cases d3 : A.2.1 = 0 <;> by_cases d4 : A.2.2 = 0 <;> by_cases d5 : A.2.2 < 9223372036854775808 <;> simp [d1, d3, d4, d5] <;> first | rfl | omega
theorem kind_lt (P F : Nat) : kindN P F < 2 ^ 31 := by unfold kindN; (repeat' split) <;> decide
theorem snan_M {τ : St} {a : Int32} {i : Nat} {A : Re} (ja : jat a = i) (h : RegIs τ 110 111 i A) : (f_MS_kind τ a = 5) ↔ isNan A.2.1 A.2.2 = true := by
  rw [skind_M ja h, show (5 : Int32) = nI 5 from rfl, nI_eq (kind_lt _ _) (by decide)]
  unfold kindN isNan
  (repeat' split) <;> simp_all
theorem sden_M {τ : St} {a : Int32} {i : Nat} {A : Re} (ja : jat a = i) (h : RegIs τ 110 111 i A) : (f_MS_kind τ a = 1) ↔ isDen A.2.1 A.2.2 = true := by
  rw [skind_M ja h, show (1 : Int32) = nI 1 from rfl, nI_eq (kind_lt _ _) (by decide)]
  unfold kindN isDen
  (repeat' split) <;> simp_all
theorem sinf_M {τ : St} {a : Int32} {i : Nat} {A : Re} (ja : jat a = i) (h : RegIs τ 110 111 i A) : (f_MS_kind τ a = 4) ↔ isInf A.2.1 A.2.2 = true := by
  rw [skind_M ja h, show (4 : Int32) = nI 4 from rfl, nI_eq (kind_lt _ _) (by decide)]
  unfold kindN isInf
  (repeat' split) <;> simp_all
theorem sminus_M {τ : St} {a : Int32} {i : Nat} {A : Re} (ja : jat a = i) (h : RegIs τ 110 111 i A) : f_MS_minus τ a = A.1 := by
  unfold f_MS_minus
  rw [ja, h.1]
  exact top_minus h.2.2
theorem sunit_M {τ : St} {a : Int32} {i : Nat} {A : Re} (ja : jat a = i) (h : RegIs τ 110 111 i A) : (f_MS_unit τ a).toInt = unitN A.2.1 := by
  have e1 : (16446 : Int32).toInt = 16446 := by decide
  have e2 : (1 : Int32).toInt = 1 := by decide
  have h3 := h.2.2
  unfold f_MS_unit unitN
  rw [ja, h.1, top_power h.2.2]
  by_cases c : A.2.1 = 0
  · rw [c]
    have : nI 0 = (0 : Int32) := rfl
    simp only [this, if_true]
    rw [i32_subT (by omega) (by omega), e1, e2]
  · have c2 : ¬ nI A.2.1 = 0 := nI_ne0 (by omega) (by omega)
    have e3 : (nI A.2.1).toInt = A.2.1 := nI_toInt (by omega)
    simp only [c2, c, if_false]
    rw [i32_subT (by omega) (by omega), e1, e3]
theorem snothing_M {τ : St} {a : Int32} {i : Nat} {A : Re} (ja : jat a = i) (h : RegIs τ 110 111 i A) : f_MS_nothing τ a = isNil A.2.1 A.2.2 := by
  have c4 : (gJ τ 111 i = 0) ↔ A.2.2 = 0 := by rw [uN_eq0, h.2.1]
  have c3 : ((3 : Int32) ≤ nI (kindN A.2.1 A.2.2)) ↔ 3 ≤ kindN A.2.1 A.2.2 := nI_leI (a := 3) (by decide) (kind_lt _ _)
  unfold f_MS_nothing isNil
  rw [skind_M ja h]
  simp only [ja, c3, c4]
  unfold kindN
  by_cases d1 : A.2.1 = 32767
  · by_cases d2 : A.2.2 % 9223372036854775808 = 0 <;> simp [d1, d2]
  · by_cases d4 : A.2.2 = 0
    · by_cases d3 : A.2.1 = 0 <;> simp [d1, d3, d4]
    · simp [d1, d4]
def frT (τ ρ : St) : Prop := ∀ k x, ¬ (28 ≤ k ∧ k ≤ 36) → gI ρ k x = gI τ k x ∧ gJ ρ k x = gJ τ k x ∧ gZ ρ k x = gZ τ k x
theorem frT_refl (τ : St) : frT τ τ := fun _ _ _ => ⟨rfl, rfl, rfl⟩
theorem frT_trans {τ ρ σ : St} (h : frT τ ρ) (g : frT ρ σ) : frT τ σ := fun k x a => ⟨(g k x a).1.trans (h k x a).1, (g k x a).2.1.trans (h k x a).2.1, (g k x a).2.2.trans (h k x a).2.2⟩
theorem frT_I (τ : St) (k o : Nat) (v : Int32) (hk : 28 ≤ k ∧ k ≤ 36) : frT τ (sI τ k o v) := fun k' x a => by
  refine ⟨?_, rfl, rfl⟩
  rw [gI_sI, if_neg (by omega)]
theorem frT_J (τ : St) (k o : Nat) (v : Int64) (hk : 28 ≤ k ∧ k ≤ 36) : frT τ (sJ τ k o v) := fun k' x a => by
  refine ⟨rfl, ?_, rfl⟩
  rw [gJ_sJ, if_neg (by omega)]
theorem frT_Z (τ : St) (k o : Nat) (v : Bool) (hk : 28 ≤ k ∧ k ≤ 36) : frT τ (sZ τ k o v) := fun k' x a => by
  refine ⟨rfl, rfl, ?_⟩
  rw [gZ_sZ, if_neg (by omega)]
theorem frT_answer (τ : St) (t : Int32) (f : Int64) : frT τ (f_MS_answer τ t f) := frT_trans (frT_I _ 32 42 _ (by decide)) (frT_trans (frT_J _ 33 42 _ (by decide)) (frT_Z _ 29 42 _ (by decide)))
theorem RegIs_T {τ ρ : St} {i : Nat} {A : Re} (h : RegIs τ 110 111 i A) (f : frT τ ρ) : RegIs ρ 110 111 i A := ⟨by rw [(f 110 i (by decide)).1]; exact h.1, by rw [(f 111 i (by decide)).2.1]; exact h.2.1, h.2.2⟩
/-- behind a step: what is told, whether there is an answer, and it -/
def SOut (τ ρ : St) (w : Nat) (R : Nat × Ra) : Prop := frT τ ρ ∧ gI ρ 28 42 = nI R.1 ∧ R.1 < 64 ∧ gZ ρ 29 42 = !endsN w R.1 ∧ (endsN w R.1 = false → ∃ p : Int32, gI ρ 32 42 = sgT R.2.1 + p ∧ p.toInt = R.2.2.1 ∧ uN (gJ ρ 33 42) = R.2.2.2)
theorem SOut_ans {τ ρ : St} {w T : Nat} {m : Bool} {p : Int32} {f : Int64} {P : Int} {F : Nat} (hf : frT τ ρ) (ht : gI ρ 28 42 = nI T) (hT : T < 64) (he : endsN w T = false) (hp : p.toInt = P) (hF : uN f = F) : SOut τ (f_MS_answer ρ (sgT m + p) f) w (T, m, P, F) := by
  refine ⟨frT_trans hf (frT_answer _ _ _), ?_, hT, ?_, fun _ => ⟨p, ?_, hp, ?_⟩⟩
  · have : gI (f_MS_answer ρ (sgT m + p) f) 28 42 = gI ρ 28 42 := by simp [f_MS_answer, gI_sI, gI_sJ, gI_sZ]
    rw [this]
    exact ht
  · show _ = !endsN w T
    rw [he]
    simp [f_MS_answer, gZ_sZ]
  · simp [f_MS_answer, gI_sI, gI_sJ, gI_sZ]
  · have : gJ (f_MS_answer ρ (sgT m + p) f) 33 42 = f := by simp [f_MS_answer, gJ_sI, gJ_sJ, gJ_sZ]
    rw [this]
    exact hF
theorem SOut_end {τ ρ : St} {w T : Nat} {r : Ra} (hf : frT τ ρ) (ht : gI ρ 28 42 = nI T) (hT : T < 64) (he : endsN w T = true) (ha : gZ ρ 29 42 = false) : SOut τ ρ w (T, r) := by
  refine ⟨hf, ht, hT, ?_, fun q => ?_⟩
  · show _ = !endsN w T
    rw [he, ha]
    rfl
  · have q' : endsN w T = false := q
    rw [he] at q'
    cases q'
