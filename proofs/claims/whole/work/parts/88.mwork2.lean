/-! the reference's work -/
def tailS (K w : Nat) (A B : Re) (d0 : Nat) : Nat × Ra :=
  if K = 3 ∧ isNil B.2.1 B.2.2 = true ∧ isInf A.2.1 A.2.2 = false then (d0 + 4, (A.1 != B.1, 32767, 9223372036854775808))
  else if isInf A.2.1 A.2.2 || isInf B.2.1 B.2.2 then (d0, infAns K A B)
  else (d0 + (SPz w (digitsOf w) (numS K w A B).1 (numS K w A B).2.1 (numS K w A B).2.2.1 (numS K w A B).2.2.2).1, ((numS K w A B).1, (SPz w (digitsOf w) (numS K w A B).1 (numS K w A B).2.1 (numS K w A B).2.2.1 (numS K w A B).2.2.2).2))
theorem opS_tail {K w : Nat} {A B : Re} (h1 : (isNan A.2.1 A.2.2 || isNan B.2.1 B.2.2) = false) (h2 : wrongS K w A B = false) (h3 : ¬ (denS A B = 2 ∧ w / 2 % 2 = 0)) : opS K w A B = tailS K w A B (denS A B) := by
  unfold opS tailS
  rw [h1, h2]
  simp only [Bool.false_eq_true, if_false, h3]
theorem WOut_ans {τ : St} {w d0 : Nat} {m : Bool} {p : Int32} {f : Int64} {P : Int} {F : Nat} (ht : gI τ 21 35 = nI d0) (hd : d0 < 64) (hs : gZ τ 22 35 = false) (he : endsN w d0 = false) (hp : p.toInt = P) (hF : uN f = F) : WOut τ (f_MO_answer τ m p f) w (d0, m, P, F) := by
  obtain ⟨g1, g2, g3, g4⟩ := answer_get τ m p f
  refine ⟨frW_answer _ _ _ _, by rw [g3]; exact ht, hd, ?_, fun _ => ⟨p, g1, hp, by rw [g2]; exact hF⟩⟩
  rw [g4, hs]
  exact he.symm
theorem ends8 {w d0 s : Nat} (hs : s % 8 = 0) (hd : d0 < 8) : endsN w (d0 + s) = endsN w d0 := by
  unfold endsN
  have e1 : (d0 + s) % 2 = d0 % 2 := by omega
  have e2 : (d0 + s) / 2 % 2 = d0 / 2 % 2 := by omega
  have e3 : (d0 + s) / 4 % 2 = d0 / 4 % 2 := by omega
  rw [e1, e2, e3]
theorem WOut_made {τ ρ : St} {w d0 : Nat} {m : Bool} {R : Nat × Int × Nat} (hst : gZ τ 22 35 = false) (hd : d0 = 0 ∨ d0 = 2) (he : endsN w d0 = false) (h : Made τ ρ d0 m R) (h1 : R.1 < 56) (h2 : R.1 % 8 = 0) : WOut τ ρ w (d0 + R.1, m, R.2) := by
  obtain ⟨f, g1, g2, p, g3, g4, g5⟩ := Made_out h
  have e := ends8 (w := w) h2 (show d0 < 8 by omega)
  refine ⟨f, g1, (show d0 + R.1 < 64 by omega), ?_, fun _ => ⟨p, g3, g4, g5⟩⟩
  rw [g2, hst]
  exact (e.trans he).symm
/-- the bounds of what is told, for the sizes that come up -/
theorem SP_told {w n : Nat} {m : Bool} {k : Int} {f : Int → Nat × Bool × Bool} : (SP w n m k f).1 < 56 ∧ (SP w n m k f).1 % 8 = 0 := by
  unfold SP
  (repeat' split) <;> simp <;> omega
theorem SPz_told (w n : Nat) (m : Bool) (N : Nat) (s : Bool) (e : Int) : (SPz w n m N s e).1 < 56 ∧ (SPz w n m N s e).1 % 8 = 0 := by
  unfold SPz
  split
  · decide
  · exact SP_told
theorem not_inf_P {P F : Nat} (h1 : isNan P F = false) (h2 : isInf P F = false) (hP : P ≤ 32767) : P < 32767 := by
  unfold isNan at h1
  unfold isInf at h2
  by_cases c : P = 32767
  · subst c
    by_cases d : F % 9223372036854775808 = 0 <;> simp [d] at h1 h2
  · omega
theorem numS_turn (w o : Nat) (A B : Re) (ho : o ≤ 2) : numS 0 w A (turnB o B, B.2.1, B.2.2) = numS (kOf o) w A B := by
  rcases (show o = 0 ∨ o = 1 ∨ o = 2 by omega) with rfl | rfl | rfl <;> rfl
theorem b69_M {x : St} {o w d0 : Nat} {A B : Re} (ho : o ≤ 5) (hwd : gI x 16 35 = nI w) (hw : w < 65536) (hA : OpIs x 0 A.1 A.2.1 A.2.2) (hB : OpIs x 1 (turnB o B) B.2.1 B.2.2) (na : isNan A.2.1 A.2.2 = false) (nb : isNan B.2.1 B.2.2 = false) (ht : gI x 21 35 = nI d0) (hd : d0 = 0 ∨ d0 = 2) (hst : gZ x 22 35 = false) (he : endsN w d0 = false) (hwr : wrongS (kOf o) w A B = false) : WOut x (f_MO_work_b69 (nI o) true x) w (tailS (kOf o) w A B d0) := by
  have j0 : jat 0 = 0 := by decide
  have j1 : jat 1 = 1 := by decide
  have k6 : o = 0 ∨ o = 1 ∨ o = 2 ∨ o = 3 ∨ o = 4 ∨ o = 5 := by omega
  have c4 : (nI o = 4) ↔ o = 4 := nI_eq (b := 4) (by omega) (by decide)
  have c5 : (nI o = 5) ↔ o = 5 := nI_eq (b := 5) (by omega) (by decide)
  have c6 : ¬ (nI o = 6) := fun q => by
    have := (nI_eq (a := o) (b := 6) (by omega) (by decide)).mp q
    omega
  have c3 : (nI o = 3) ↔ o = 3 := nI_eq (b := 3) (by omega) (by decide)
  have l3 : ((3 : Int32) ≤ nI o) ↔ 3 ≤ o := nI_leI (a := 3) (by decide) (by omega)
  have t2 : (if gZ x 106 (jat 0) = gZ x 106 (jat 1) then false else true) = (A.1 != turnB o B) := by
    rw [j0, j1, hA.1, hB.1]
    exact bne_if _ _
  have t3 : (if nI o = 4 then true else if nI o = 5 then true else false) = decide (kOf o = 3) := by
    simp only [c4, c5]
    rcases k6 with rfl | rfl | rfl | rfl | rfl | rfl <;> rfl
  have K3 : kOf o = 3 ↔ (o = 4 ∨ o = 5) := by
    rcases k6 with rfl | rfl | rfl | rfl | rfl | rfl <;> decide
  have sgn : 3 ≤ o → (A.1 != turnB o B) = (A.1 != B.1) := fun h => by
    unfold turnB
    rw [if_neg (by omega)]
  -- infinite ones
  have inf : (isInf A.2.1 A.2.2 || isInf B.2.1 B.2.2) = true → WOut x (f_MO_work_b170 (nI o) x (A.1 != turnB o B) (decide (kOf o = 3))) w (d0, infAns (kOf o) A B) := fun hi => by
    unfold f_MO_work_b170 f_MO_work_b254 infAns
    simp only [c6, if_false, l3, endless_M j0 hA, endless_M j1 hB, j0, j1, hA.1, hB.1]
    by_cases g : 3 ≤ o
    · rw [sgn g]
      by_cases g3 : kOf o = 3
      · have n01 : ¬ (kOf o = 0 ∨ kOf o = 1) := by omega
        simp only [g, if_true, g3, decide_true, show ¬ ((3 : Nat) = 0 ∨ (3 : Nat) = 1) by decide, if_false, true_and]
        by_cases ib : isInf B.2.1 B.2.2 = true
        · by_cases ia : isInf A.2.1 A.2.2 = true
          · -- both: that is wrong, and does not come here
            unfold wrongS at hwr
            rw [g3, ia, ib] at hwr
            simp at hwr
          · have ia' : isInf A.2.1 A.2.2 = false := by simpa using ia
            simp only [ib, if_true, ia']
            exact WOut_ans ht (by omega) hst he (by decide) (by decide)
        · have ib' : isInf B.2.1 B.2.2 = false := by simpa using ib
          have ia : isInf A.2.1 A.2.2 = true := by rw [ib', Bool.or_false] at hi; exact hi
          simp only [ib', Bool.false_eq_true, if_false, ia, Bool.true_eq_false]
          exact WOut_ans ht (by omega) hst he (by decide) (by decide)
      · have o3 : o = 3 := by
          have := fun q => g3 (K3.mpr q)
          omega
        subst o3
        have e : kOf 3 = 2 := rfl
        rw [e]
        simp only [g, if_true, show ¬ ((2 : Nat) = 3) by decide, decide_false, Bool.false_eq_true, if_false, show ¬ ((2 : Nat) = 0 ∨ (2 : Nat) = 1) by decide, false_and]
        exact WOut_ans ht (by omega) hst he (by decide) (by decide)
    · have K01 : kOf o = 0 ∨ kOf o = 1 := by
        rcases (show o = 0 ∨ o = 1 ∨ o = 2 by omega) with rfl | rfl | rfl <;> decide
      have tb : turnB o B = (B.1 != decide (kOf o = 1)) := by
        rcases (show o = 0 ∨ o = 1 ∨ o = 2 by omega) with rfl | rfl | rfl <;> (cases hb : B.1 <;> simp [turnB, kOf, hb])
      simp only [g, if_false, K01, if_true, ← tb]
      exact WOut_ans ht (by omega) hst he (by decide) (by decide)
  have num : isInf A.2.1 A.2.2 = false → isInf B.2.1 B.2.2 = false → (kOf o = 3 → isNil B.2.1 B.2.2 = false) → WOut x (f_MO_work_b268 (nI o) x (A.1 != turnB o B) (decide (kOf o = 3))) w (d0 + (SPz w (digitsOf w) (numS (kOf o) w A B).1 (numS (kOf o) w A B).2.1 (numS (kOf o) w A B).2.2.1 (numS (kOf o) w A B).2.2.2).1, ((numS (kOf o) w A B).1, (SPz w (digitsOf w) (numS (kOf o) w A B).1 (numS (kOf o) w A B).2.1 (numS (kOf o) w A B).2.2.1 (numS (kOf o) w A B).2.2.2).2)) := fun ia ib i3 => by
    have pa := not_inf_P na ia hA.2.2.1
    have pb := not_inf_P nb ib hB.2.2.1
    obtain ⟨q1, q2⟩ := SPz_told w (digitsOf w) (numS (kOf o) w A B).1 (numS (kOf o) w A B).2.1 (numS (kOf o) w A B).2.2.1 (numS (kOf o) w A B).2.2.2
    refine WOut_made hst hd he ?_ q1 q2
    unfold f_MO_work_b268
    simp only [l3, c3]
    by_cases g : 3 ≤ o
    · rw [sgn g]
      by_cases o3 : o = 3
      · subst o3
        simp only [g, if_true]
        exact prod_M hA hB hwd hw ht
      · have g3 : kOf o = 3 := K3.mpr (by omega)
        have hFb : B.2.2 ≠ 0 := fun z => by
          have h3 := i3 g3
          unfold isNil at h3
          have : ¬ B.2.1 = 32767 := by omega
          simp [z, this] at h3
        rw [g3]
        simp only [g, if_true, o3, if_false, decide_true]
        have tb : turnB o B = B.1 := by
          unfold turnB
          rw [if_neg (by omega)]
        rw [tb] at hB
        exact quo_M hA hB pa hFb hwd hw ht
    · simp only [g, if_false]
      rw [← numS_turn w o A B (by omega)]
      exact sum_M hA hB pa pb hwd hw ht
  unfold f_MO_work_b69 f_MO_work_b150
  simp only [t2, t3, if_true, endless_M j0 hA, endless_M j1 hB, nil_M j1 hB]
  unfold tailS
  by_cases z3 : kOf o = 3 ∧ isNil B.2.1 B.2.2 = true ∧ isInf A.2.1 A.2.2 = false
  · obtain ⟨z4, z5, z6⟩ := z3
    have g : 3 ≤ o := by
      rcases K3.mp z4 with q | q <;> omega
    obtain ⟨ρ, c1, f1, g1, g2⟩ := tell_M hwd hw ht 2 (by decide)
    have n4 : nI (2 ^ 2) = (4 : Int32) := rfl
    rw [n4] at c1
    simp only [z4, z5, z6, decide_true, if_true, Bool.false_eq_true, if_false, and_self, c1]
    have e4 : endsN w (d0 + 4) = decide (¬ w / 4 % 2 = 1) := by
      unfold endsN at he ⊢
      rcases hd with rfl | rfl
      · by_cases q : w / 4 % 2 = 1
        · simp [q]
        · have : w / 4 % 2 = 0 := by omega
          simp [this]
      · have : ¬ w / 2 % 2 = 0 := by simpa using he
        by_cases q : w / 4 % 2 = 1
        · simp [q]
          omega
        · have q2 : w / 4 % 2 = 0 := by omega
          simp [q2]
    by_cases q : w / 4 % 2 = 1
    · have qd : decide (w / 2 ^ 2 % 2 = 1) = true := decide_eq_true q
      rw [qd, sgn g]
      simp only [if_true]
      obtain ⟨a1, a2, a3, a4⟩ := answer_get ρ (A.1 != B.1) 32767 (-9223372036854775808)
      refine ⟨frW_trans f1 (frW_answer _ _ _ _), by rw [a3]; exact g1, (show d0 + 4 < 64 by omega), ?_, fun _ => ⟨32767, a1, (show (32767 : Int32).toInt = 32767 by decide), by rw [a2]; rfl⟩⟩
      rw [a4, g2]
      exact e4.symm
    · have qd : decide (w / 2 ^ 2 % 2 = 1) = false := decide_eq_false q
      rw [qd]
      simp only [Bool.false_eq_true, if_false]
      refine ⟨f1, g1, (show d0 + 4 < 64 by omega), ?_, fun z => ?_⟩
      · rw [g2]
        exact e4.symm
      · have z' : endsN w (d0 + 4) = false := z
        rw [e4] at z'
        simp at z'
        exact absurd z' q
  · rw [if_neg z3]
    have same : ∀ Y T : St, (if decide (kOf o = 3) = true then if isNil B.2.1 B.2.2 = true then if isInf A.2.1 A.2.2 = true then Y else T else Y else Y) = Y := fun Y T => by
      by_cases y1 : kOf o = 3
      · rw [decide_eq_true y1, if_pos rfl]
        by_cases y2 : isNil B.2.1 B.2.2 = true
        · rw [if_pos y2]
          by_cases y3 : isInf A.2.1 A.2.2 = true
          · rw [if_pos y3]
          · exact absurd ⟨y1, y2, by simpa using y3⟩ z3
        · rw [if_neg y2]
      · rw [decide_eq_false y1]
        rfl
    rw [same]
    by_cases i1 : isInf A.2.1 A.2.2 = true
    · simp only [i1, if_true, Bool.true_or]
      exact inf (by simp [i1])
    · have i1' : isInf A.2.1 A.2.2 = false := by simpa using i1
      by_cases i2 : isInf B.2.1 B.2.2 = true
      · simp only [i1', i2, if_true, Bool.false_eq_true, if_false, Bool.or_true]
        exact inf (by simp [i2])
      · have i2' : isInf B.2.1 B.2.2 = false := by simpa using i2
        simp only [i1', i2', Bool.false_eq_true, if_false, Bool.or_self]
        refine num i1' i2' (fun hk => ?_)
        cases hn : isNil B.2.1 B.2.2
        · rfl
        · exact absurd ⟨hk, hn, i1'⟩ z3
theorem WOut_trans {τ ρ σ : St} {w : Nat} {R : Nat × Ra} (f : frW τ ρ) (h : WOut ρ σ w R) : WOut τ σ w R := ⟨frW_trans f h.1, h.2⟩
theorem work_M {τ : St} {o w : Nat} {A B : Re} (ho : o ≤ 5) (hwd : gI τ 16 35 = nI w) (hw : w < 65536) (hA : OpIs τ 0 A.1 A.2.1 A.2.2) (hB : OpIs τ 1 (turnB o B) B.2.1 B.2.2) (na : isNan A.2.1 A.2.2 = false) (nb : isNan B.2.1 B.2.2 = false) (ht : gI τ 21 35 = nI 0) (hst : gZ τ 22 35 = false) : WOut τ (f_MO_work τ (nI o)) w (opS (kOf o) w A B) := by
  have j0 : jat 0 = 0 := by decide
  have j1 : jat 1 = 1 := by decide
  have l6 : ¬ (6 : Int32) ≤ nI o := nI_ge (b := 6) (by omega) (by decide)
  have e0 : endsN w 0 = false := by unfold endsN; simp
  unfold f_MO_work f_MO_work_b60
  simp only [l6, if_false, if_true, wrong_M (by omega) hwd hw hA hB, denorm_M j0 hA, denorm_M j1 hB]
  by_cases wr : wrongS (kOf o) w A B = true
  · obtain ⟨ρ, c1, f1, g1, g2⟩ := tell_M hwd hw ht 0 (by decide)
    have n1 : nI (2 ^ 0) = (1 : Int32) := rfl
    rw [n1] at c1
    have e : opS (kOf o) w A B = (1, (true, 32767, 13835058055282163712)) := by
      unfold opS
      rw [na, nb, wr]
      simp
    rw [e]
    simp only [wr, if_true, c1]
    have e1 : endsN w 1 = decide (¬ w % 2 = 1) := by
      unfold endsN
      by_cases q : w % 2 = 1
      · simp [q]
      · have : w % 2 = 0 := by omega
        simp [this]
    have w1 : w / 2 ^ 0 = w := by simp
    rw [w1] at g2
    simp only [w1]
    by_cases q : w % 2 = 1
    · rw [decide_eq_true q]
      simp only [if_true]
      obtain ⟨a1, a2, a3, a4⟩ := answer_get ρ true 32767 (-4611686018427387904)
      refine ⟨frW_trans f1 (frW_answer _ _ _ _), by rw [a3]; exact g1, (show (1 : Nat) < 64 by decide), ?_, fun _ => ⟨32767, a1, by decide, by rw [a2]; decide⟩⟩
      rw [a4, g2]
      exact e1.symm
    · rw [decide_eq_false q]
      simp only [Bool.false_eq_true, if_false]
      refine ⟨f1, g1, (show (1 : Nat) < 64 by decide), ?_, fun z => ?_⟩
      · rw [g2]
        exact e1.symm
      · have z' : endsN w 1 = false := z
        rw [e1] at z'
        simp at z'
        exact absurd z' q
  · have wr' : wrongS (kOf o) w A B = false := by simpa using wr
    simp only [wr', Bool.false_eq_true, if_false]
    have hnn : (isNan A.2.1 A.2.2 || isNan B.2.1 B.2.2) = false := by rw [na, nb]; rfl
    by_cases dn : (isDen A.2.1 A.2.2 || isDen B.2.1 B.2.2) = true
    · have d2 : denS A B = 2 := by unfold denS; rw [dn]; rfl
      obtain ⟨ρ, c1, f1, g1, g2⟩ := tell_M hwd hw ht 1 (by decide)
      have n2 : nI (2 ^ 1) = (2 : Int32) := rfl
      rw [n2] at c1
      have br : (if isDen A.2.1 A.2.2 = true then (if (f_MO_tell τ 2).1 = true then f_MO_work_b69 (nI o) true (f_MO_tell τ 2).2 else (f_MO_tell τ 2).2) else if isDen B.2.1 B.2.2 = true then (if (f_MO_tell τ 2).1 = true then f_MO_work_b69 (nI o) true (f_MO_tell τ 2).2 else (f_MO_tell τ 2).2) else f_MO_work_b69 (nI o) true τ) = (if (f_MO_tell τ 2).1 = true then f_MO_work_b69 (nI o) true (f_MO_tell τ 2).2 else (f_MO_tell τ 2).2) := by
        cases h1 : isDen A.2.1 A.2.2 <;> cases h2 : isDen B.2.1 B.2.2
        · rw [h1, h2] at dn
          cases dn
        · rfl
        · rfl
        · rfl
      rw [br, c1]
      simp only []
      have e2 : endsN w 2 = decide (¬ w / 2 % 2 = 1) := by
        unfold endsN
        by_cases q : w / 2 % 2 = 1
        · simp [q]
        · have : w / 2 % 2 = 0 := by omega
          simp [this]
      by_cases q : w / 2 % 2 = 1
      · have qd : decide (w / 2 ^ 1 % 2 = 1) = true := decide_eq_true q
        rw [qd, if_pos rfl, opS_tail hnn wr' (by omega), d2]
        refine WOut_trans f1 (b69_M ho ?_ hw (OpIs_fr hA f1) (OpIs_fr hB f1) na nb g1 (Or.inr rfl) ?_ ?_ wr')
        · rw [(f1 16 35 (by decide) (by decide)).1]
          exact hwd
        · rw [g2]
          exact decide_eq_false (fun z => z q)
        · rw [e2]
          exact decide_eq_false (fun z => z q)
      · have qd : decide (w / 2 ^ 1 % 2 = 1) = false := decide_eq_false q
        rw [qd]
        simp only [Bool.false_eq_true, if_false]
        have e : opS (kOf o) w A B = (2, asRa A) := by
          unfold opS
          rw [hnn, wr']
          have : denS A B = 2 ∧ w / 2 % 2 = 0 := ⟨d2, by omega⟩
          simp [this]
        rw [e]
        refine ⟨f1, g1, (show (2 : Nat) < 64 by decide), ?_, fun z => ?_⟩
        · rw [g2]
          exact e2.symm
        · have z' : endsN w 2 = false := z
          rw [e2] at z'
          simp at z'
          exact absurd z' q
    · have dn' : (isDen A.2.1 A.2.2 || isDen B.2.1 B.2.2) = false := by simpa using dn
      have d0 : denS A B = 0 := by unfold denS; rw [dn']; rfl
      have h1 : isDen A.2.1 A.2.2 = false := (Bool.or_eq_false_iff.mp dn').1
      have h2 : isDen B.2.1 B.2.2 = false := (Bool.or_eq_false_iff.mp dn').2
      simp only [h1, h2, Bool.false_eq_true, if_false]
      rw [opS_tail hnn wr' (by omega), d0]
      exact b69_M ho hwd hw hA hB na nb ht (Or.inl rfl) hst e0 wr'
