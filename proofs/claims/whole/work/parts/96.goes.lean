/-! the reference's steps: what is looked at first -/
theorem ends1 (w : Nat) : endsN w 1 = decide (¬ w % 2 = 1) := by
  unfold endsN
  by_cases q : w % 2 = 1
  · simp [q]
  · have : w % 2 = 0 := by omega
    simp [this]
theorem ends2 (w : Nat) : endsN w 2 = decide (¬ w / 2 % 2 = 1) := by
  unfold endsN
  by_cases q : w / 2 % 2 = 1
  · simp [q]
  · have : w / 2 % 2 = 0 := by omega
    simp [this]
theorem ends0 (w : Nat) : endsN w 0 = false := by unfold endsN; simp
theorem top_sg (a : Re) : nI (topN a) = sgT a.1 + nI a.2.1 := top_sum
/-- told that something is invalid: the answer, or the end -/
theorem inval_S {τ : St} {w : Nat} {m : Bool} {p : Int32} {f : Int64} {P : Int} {F : Nat} {top : Int32} (hwd : gI τ 27 42 = nI w) (hw : w < 65536) (ht : gI τ 28 42 = nI 0) (hna : gZ τ 29 42 = false) (htop : top = sgT m + p) (hp : p.toInt = P) (hF : uN f = F) : SOut τ (if (f_MS_tell τ 1).1 = true then f_MS_answer (f_MS_tell τ 1).2 top f else (f_MS_tell τ 1).2) w (1, m, P, F) := by
  have tl := tell_S hwd hw ht (by decide) 0 (by decide)
  have n1 : nI (2 ^ 0) = (1 : Int32) := rfl
  have w1 : w / 2 ^ 0 = w := by simp
  rw [n1, w1, show (0 : Nat) ||| 2 ^ 0 = 1 from rfl] at tl
  rw [tl]
  simp only []
  have f1 : frT τ (sI τ 28 42 (nI 1)) := frT_I _ 28 42 _ (by decide)
  have t1 : gI (sI τ 28 42 (nI 1)) 28 42 = nI 1 := by simp [gI_sI]
  by_cases q : w % 2 = 1
  · rw [decide_eq_true q, if_pos rfl, htop]
    exact SOut_ans f1 t1 (by decide) (by rw [ends1]; exact decide_eq_false (fun z => z q)) hp hF
  · rw [decide_eq_false q]
    simp only [Bool.false_eq_true, if_false]
    exact SOut_end f1 t1 (by decide) (by rw [ends1]; exact decide_eq_true q) hna
theorem goes_n {τ : St} {w i : Nat} {a : Int32} {A : Re} {can : Bool} (ja : jat a = i) (hA : RegIs τ 110 111 i A) (hwd : gI τ 27 42 = nI w) (hw : w < 65536) (ht : gI τ 28 42 = nI 0) (hna : gZ τ 29 42 = false) :
    (∃ (R : Nat × Ra) (ρ : St), setS w A A (!can) = some R ∧ f_MS_goesOn_n τ a can = (false, ρ) ∧ SOut τ ρ w R) ∨
    (∃ ρ : St, setS w A A (!can) = none ∧ f_MS_goesOn_n τ a can = (true, ρ) ∧ frT τ ρ ∧ gI ρ 28 42 = nI (denS A A) ∧ gZ ρ 29 42 = false) := by
  unfold f_MS_goesOn_n setS
  simp only [snan_M ja hA, sden_M ja hA]
  cases hn : isNan A.2.1 A.2.2 with
  | true =>
    left
    simp only [Bool.true_or, if_true]
    have nn : nanS A A = A := by unfold nanS; split <;> rfl
    refine ⟨_, _, rfl, rfl, ?_⟩
    rw [nn]
    have r1 : gI (f_MS_tell τ 1).2 110 (jat a) = nI (topN A) := by rw [ja]; exact hA.1
    have r2 : gJ (f_MS_tell τ 1).2 111 (jat a) = gJ τ 111 i := by rw [ja]; rfl
    rw [r1, r2]
    exact inval_S (m := A.1) (p := nI A.2.1) (P := (A.2.1 : Int)) hwd hw ht hna (top_sg A) (nI_toInt (by have := hA.2.2; omega)) hA.2.1
  | false =>
    simp only [Bool.or_self, Bool.false_eq_true, if_false]
    cases can with
    | false =>
      left
      simp only [Bool.not_false, if_true, Bool.false_eq_true, if_false]
      refine ⟨_, _, rfl, rfl, ?_⟩
      exact inval_S (m := true) (p := 32767) (P := 32767) hwd hw ht hna (by decide) (by decide) (by decide)
    | true =>
      simp only [Bool.not_true, Bool.false_eq_true, if_false, if_true]
      cases hd : isDen A.2.1 A.2.2 with
      | false =>
        right
        have d0 : denS A A = 0 := by unfold denS; rw [hd]; rfl
        rw [d0]
        refine ⟨τ, by simp, by simp, frT_refl _, ht, hna⟩
      | true =>
        have d2 : denS A A = 2 := by unfold denS; rw [hd]; rfl
        have tl := tell_S hwd hw ht (by decide) 1 (by decide)
        have n2 : nI (2 ^ 1) = (2 : Int32) := rfl
        rw [n2, show (0 : Nat) ||| 2 ^ 1 = 2 from rfl] at tl
        have f1 : frT τ (sI τ 28 42 (nI 2)) := frT_I _ 28 42 _ (by decide)
        have t1 : gI (sI τ 28 42 (nI 2)) 28 42 = nI 2 := by simp [gI_sI]
        simp only [if_true, tl, d2, true_and]
        by_cases q : w / 2 % 2 = 1
        · right
          have qd : decide (w / 2 ^ 1 % 2 = 1) = true := decide_eq_true q
          have q0 : ¬ w / 2 % 2 = 0 := by omega
          rw [qd]
          exact ⟨_, by simp [q0], by simp, f1, t1, hna⟩
        · left
          have qd : decide (w / 2 ^ 1 % 2 = 1) = false := decide_eq_false q
          have q0 : w / 2 % 2 = 0 := by omega
          rw [qd]
          exact ⟨(2, asRa A), _, by simp [q0], by simp, SOut_end f1 t1 (by decide) (by rw [ends2]; exact decide_eq_true q) hna⟩
theorem goes_2 {τ : St} {w i j : Nat} {a b : Int32} {A B : Re} {can : Bool} (ja : jat a = i) (jb : jat b = j) (hb0 : ¬ b < 0) (hA : RegIs τ 110 111 i A) (hB : RegIs τ 110 111 j B) (hwd : gI τ 27 42 = nI w) (hw : w < 65536) (ht : gI τ 28 42 = nI 0) (hna : gZ τ 29 42 = false) :
    (∃ (R : Nat × Ra) (ρ : St), setS w A B (!can) = some R ∧ f_MS_goesOn τ a b can = (false, ρ) ∧ SOut τ ρ w R) ∨
    (∃ ρ : St, setS w A B (!can) = none ∧ f_MS_goesOn τ a b can = (true, ρ) ∧ frT τ ρ ∧ gI ρ 28 42 = nI (denS A B) ∧ gZ ρ 29 42 = false) := by
  have c1 : (gJ τ 111 i = gJ τ 111 j) ↔ A.2.2 = B.2.2 := by rw [uN_eq, hA.2.1, hB.2.1]
  have b1 : (if f_MS_kind τ a = 5 then true else false) = isNan A.2.1 A.2.2 := by
    simp only [snan_M ja hA]
    cases isNan A.2.1 A.2.2 <;> rfl
  have b2 : (if b < 0 then false else if f_MS_kind τ b = 5 then true else false) = isNan B.2.1 B.2.2 := by
    simp only [hb0, if_false, snan_M jb hB]
    cases isNan B.2.1 B.2.2 <;> rfl
  have d1 : (if f_MS_kind τ a = 1 then true else if b < 0 then false else if f_MS_kind τ b = 1 then true else false) = (isDen A.2.1 A.2.2 || isDen B.2.1 B.2.2) := by
    simp only [hb0, if_false, sden_M ja hA, sden_M jb hB]
    cases isDen A.2.1 A.2.2 <;> cases isDen B.2.1 B.2.2 <;> rfl
  unfold f_MS_goesOn setS
  simp only [b1, b2, d1]
  by_cases nn : (isNan A.2.1 A.2.2 || isNan B.2.1 B.2.2) = true
  · left
    rw [if_pos nn]
    have br : ∀ P Q : Bool × St, (if isNan A.2.1 A.2.2 = true then P else if isNan B.2.1 B.2.2 = true then P else Q) = P := fun P Q => by
      cases h1 : isNan A.2.1 A.2.2
      · cases h2 : isNan B.2.1 B.2.2
        · rw [h1, h2] at nn
          cases nn
        · rfl
      · rfl
    rw [br]
    refine ⟨_, _, rfl, rfl, ?_⟩
    -- which one
    obtain ⟨sec, hsec, hx⟩ : ∃ sec : Bool, (if isNan A.2.1 A.2.2 = true then if isNan B.2.1 B.2.2 = true then (if f_MS_lessSize (gJ τ 111 (jat a)) (gJ τ 111 (jat b)) = true then true else if gJ τ 111 (jat a) = gJ τ 111 (jat b) then if f_MS_minus τ a = true then if f_MS_minus τ b = true then false else true else false else false) else (if isNan A.2.1 A.2.2 = true then false else true) else (if isNan A.2.1 A.2.2 = true then false else true)) = sec ∧ nanS A B = (if sec = true then B else A) := by
      refine ⟨_, rfl, ?_⟩
      rw [ja, jb, lessSize_eq, sminus_M ja hA, sminus_M jb hB, hA.2.1, hB.2.1]
      simp only [c1]
      unfold nanS beforeS
      cases h1 : isNan A.2.1 A.2.2 <;> cases h2 : isNan B.2.1 B.2.2
      · rw [h1, h2] at nn
        cases nn
      · simp
      · simp
      · by_cases e : A.2.2 = B.2.2
        · have e' : B.2.2 = A.2.2 := e.symm
          have l : ¬ A.2.2 < B.2.2 := by omega
          cases A.1 <;> cases B.1 <;> simp [e]
        · have e' : ¬ B.2.2 = A.2.2 := fun q => e q.symm
          by_cases l : A.2.2 < B.2.2
          · simp [e, e', l]
          · simp [e, e', l]
    rw [hx]
    have r1 : ∀ x y, gI (f_MS_tell τ 1).2 110 (jat (if sec = true then b else a)) = nI (topN (if sec = true then B else A)) ∧ gJ (f_MS_tell τ 1).2 111 (jat (if sec = true then b else a)) = gJ τ 111 (if sec = true then j else i) ∧ x = (0 : Nat) ∨ y = (1 : Nat) ∨ True := fun x y => Or.inr (Or.inr trivial)
    have r2 : gI (f_MS_tell τ 1).2 110 (jat (if sec = true then b else a)) = nI (topN (if sec = true then B else A)) := by
      cases sec
      · show gI (f_MS_tell τ 1).2 110 (jat a) = nI (topN A)
        rw [ja]
        exact hA.1
      · show gI (f_MS_tell τ 1).2 110 (jat b) = nI (topN B)
        rw [jb]
        exact hB.1
    have r3 : uN (gJ (f_MS_tell τ 1).2 111 (jat (if sec = true then b else a))) = (if sec = true then B else A).2.2 := by
      cases sec
      · show uN (gJ (f_MS_tell τ 1).2 111 (jat a)) = A.2.2
        rw [ja]
        exact hA.2.1
      · show uN (gJ (f_MS_tell τ 1).2 111 (jat b)) = B.2.2
        rw [jb]
        exact hB.2.1
    have hP : (if sec = true then B else A).2.1 ≤ 32767 := by
      cases sec
      · exact hA.2.2
      · exact hB.2.2
    simp only [hsec, r2]
    exact inval_S (m := (if sec = true then B else A).1) (p := nI (if sec = true then B else A).2.1) (P := (((if sec = true then B else A).2.1 : Nat) : Int)) hwd hw ht hna (top_sg _) (nI_toInt (by omega)) r3
  · have nn' : (isNan A.2.1 A.2.2 || isNan B.2.1 B.2.2) = false := by simpa using nn
    obtain ⟨h1, h2⟩ := Bool.or_eq_false_iff.mp nn'
    simp only [h1, h2, Bool.or_self, Bool.false_eq_true, if_false]
    cases can with
    | false =>
      left
      simp only [Bool.not_false, if_true, Bool.false_eq_true, if_false]
      refine ⟨_, _, rfl, rfl, ?_⟩
      exact inval_S (m := true) (p := 32767) (P := 32767) hwd hw ht hna (by decide) (by decide) (by decide)
    | true =>
      simp only [Bool.not_true, Bool.false_eq_true, if_false, if_true]
      cases hd : (isDen A.2.1 A.2.2 || isDen B.2.1 B.2.2) with
      | false =>
        right
        have d0 : denS A B = 0 := by unfold denS; rw [hd]; rfl
        rw [d0]
        refine ⟨τ, by simp, by simp, frT_refl _, ht, hna⟩
      | true =>
        have d2 : denS A B = 2 := by unfold denS; rw [hd]; rfl
        have tl := tell_S hwd hw ht (by decide) 1 (by decide)
        have n2 : nI (2 ^ 1) = (2 : Int32) := rfl
        rw [n2, show (0 : Nat) ||| 2 ^ 1 = 2 from rfl] at tl
        have f1 : frT τ (sI τ 28 42 (nI 2)) := frT_I _ 28 42 _ (by decide)
        have t1 : gI (sI τ 28 42 (nI 2)) 28 42 = nI 2 := by simp [gI_sI]
        simp only [if_true, tl, d2, true_and]
        by_cases q : w / 2 % 2 = 1
        · right
          have qd : decide (w / 2 ^ 1 % 2 = 1) = true := decide_eq_true q
          have q0 : ¬ w / 2 % 2 = 0 := by omega
          rw [qd]
          exact ⟨_, by simp [q0], by simp, f1, t1, hna⟩
        · left
          have qd : decide (w / 2 ^ 1 % 2 = 1) = false := decide_eq_false q
          have q0 : w / 2 % 2 = 0 := by omega
          rw [qd]
          exact ⟨(2, asRa A), _, by simp [q0], by simp, SOut_end f1 t1 (by decide) (by rw [ends2]; exact decide_eq_true q) hna⟩
