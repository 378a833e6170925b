/-! no numbers, and the whole of the reference's operation -/
theorem top_sum {a : Re} : nI (topN a) = (if a.1 = true then 32768 else 0) + nI a.2.1 := by
  unfold topN
  cases a.1
  · show nI (0 * 32768 + a.2.1) = nI 0 + nI a.2.1
    rw [nI_add, Nat.zero_mul]
  · show nI (1 * 32768 + a.2.1) = nI 32768 + nI a.2.1
    rw [nI_add]
theorem noNumber_M {τ : St} {w cnt : Nat} {A B : Re} (hc : cnt = 1 ∨ cnt = 2) (hwd : gI τ 16 35 = nI w) (hw : w < 65536) (hA : OpIs τ 0 A.1 A.2.1 A.2.2) (hB : OpIs τ 1 B.1 B.2.1 B.2.2) (rA : RegIs τ 104 105 0 A) (rB : RegIs τ 104 105 1 B) (ht : gI τ 21 35 = nI 0) (hn : isNan A.2.1 A.2.2 = true ∨ (cnt = 2 ∧ isNan B.2.1 B.2.2 = true)) : WOut τ (f_MO_noNumber τ (nI cnt) 0 1) w (1, asRa (if cnt = 2 then nanS A B else A)) := by
  have j0 : jat 0 = 0 := by decide
  have j1 : jat 1 = 1 := by decide
  have c2 : (nI cnt = 2) ↔ cnt = 2 := nI_eq (b := 2) (by omega) (by decide)
  have t3 : (if gJ τ 108 0 = gJ τ 108 1 then if nI (topN A) ≤ 32767 then false else if 32767 < nI (topN B) then false else true else f_MO_below (gJ τ 108 0) (gJ τ 108 1)) = beforeS B A := by
    have e1 : (gJ τ 108 0 = gJ τ 108 1) ↔ B.2.2 = A.2.2 := by
      rw [uN_eq, hA.2.2.2, hB.2.2.2]
      exact eq_comm
    have m1 := top_minus rA.2.2
    have m2 := top_minus rB.2.2
    have e2 : (32767 < nI (topN B)) ↔ ¬ (nI (topN B) ≤ 32767) := Int32.not_le.symm
    unfold beforeS
    simp only [e1, below_eq, hA.2.2.2, hB.2.2.2, e2]
    by_cases q : B.2.2 = A.2.2
    · rw [if_pos q, if_pos q]
      by_cases a1 : nI (topN A) ≤ 32767 <;> by_cases b1 : nI (topN B) ≤ 32767 <;> simp [a1, b1] at m1 m2 <;> simp [a1, b1, m1, m2]
    · rw [if_neg q, if_neg q]
  obtain ⟨sec, hsec, hx⟩ : ∃ sec : Bool, (if nI cnt = 2 then if isNan A.2.1 A.2.2 = true then if isNan B.2.1 B.2.2 = true then beforeS B A else (if isNan A.2.1 A.2.2 = true then false else true) else (if isNan A.2.1 A.2.2 = true then false else true) else (if isNan A.2.1 A.2.2 = true then false else true)) = sec ∧ (if cnt = 2 then nanS A B else A) = (if sec = true then B else A) := by
    refine ⟨_, rfl, ?_⟩
    simp only [c2]
    unfold nanS
    rcases hc with rfl | rfl
    · have na : isNan A.2.1 A.2.2 = true := by
        rcases hn with q | q
        · exact q
        · exact absurd q.1 (by decide)
      rw [na]
      rfl
    · cases h1 : isNan A.2.1 A.2.2 <;> cases h2 : isNan B.2.1 B.2.2 <;> cases h3 : beforeS B A <;> simp
  rw [hx]
  obtain ⟨ρ, c1, f1, g1, g2⟩ := tell_M hwd hw ht 0 (by decide)
  have n1 : nI (2 ^ 0) = (1 : Int32) := rfl
  rw [n1] at c1
  have w1 : w / 2 ^ 0 = w := by simp
  rw [w1] at c1 g2
  have e1 : endsN w 1 = decide (¬ w % 2 = 1) := by
    unfold endsN
    by_cases q : w % 2 = 1
    · simp [q]
    · have : w % 2 = 0 := by omega
      simp [this]
  unfold f_MO_noNumber
  simp only [none_M j0 hA, none_M j1 hB, j0, j1, rA.1, rB.1, t3, hsec, c1]
  by_cases q : w % 2 = 1
  · rw [decide_eq_true q]
    simp only [if_true]
    have r0 : gI ρ 104 0 = nI (topN A) := by rw [(f1 104 0 (by decide) (by decide)).1]; exact rA.1
    have r1 : gI ρ 104 1 = nI (topN B) := by rw [(f1 104 1 (by decide) (by decide)).1]; exact rB.1
    have q0 : ∀ v, gJ (sI ρ 23 35 v) 105 0 = gJ τ 105 0 := fun v => by rw [gJ_sI]; exact (f1 105 0 (by decide) (by decide)).2.1
    have q1 : ∀ v, gJ (sI ρ 23 35 v) 105 1 = gJ τ 105 1 := fun v => by rw [gJ_sI]; exact (f1 105 1 (by decide) (by decide)).2.1
    refine ⟨frW_trans f1 (frW_trans (frW_I _ _ _ _ (by decide)) (frW_J _ _ _ _ (by decide))), ?_, (show (1 : Nat) < 64 by decide), ?_, fun _ => ?_⟩
    · exact g1
    · show gZ ρ 22 35 = endsN w 1
      rw [g2]
      exact e1.symm
    · simp only [r0, r1, q0, q1]
      cases sec with
      | true =>
        refine ⟨nI B.2.1, ?_, ?_, ?_⟩
        · simp only [if_true, gI_sJ, gI_sI]
          exact top_sum
        · exact nI_toInt (by have := rB.2.2; omega)
        · simp [gJ_sJ]
          exact rB.2.1
      | false =>
        refine ⟨nI A.2.1, ?_, ?_, ?_⟩
        · simp only [if_true, gI_sJ, gI_sI, Bool.false_eq_true, if_false]
          exact top_sum
        · exact nI_toInt (by have := rA.2.2; omega)
        · simp [gJ_sJ]
          exact rA.2.1
  · rw [decide_eq_false q]
    simp only [Bool.false_eq_true, if_false]
    refine ⟨f1, g1, (show (1 : Nat) < 64 by decide), ?_, fun z => ?_⟩
    · rw [g2]
      exact e1.symm
    · have z' : endsN w 1 = false := z
      rw [e1] at z'
      simp at z'
      exact absurd z' q
theorem nanS_comm {A B : Re} (h : (isNan A.2.1 A.2.2 || isNan B.2.1 B.2.2) = true) : nanS A B = nanS B A := by
  unfold nanS
  cases h1 : isNan A.2.1 A.2.2 <;> cases h2 : isNan B.2.1 B.2.2
  · rw [h1, h2] at h
    cases h
  · simp
  · simp
  · -- both: the same sign and fraction, or one goes before
    have pA : A.2.1 = 32767 := by
      unfold isNan at h1
      simp at h1
      exact h1.1
    have pB : B.2.1 = 32767 := by
      unfold isNan at h2
      simp at h2
      exact h2.1
    obtain ⟨ma, PA, FA⟩ := A
    obtain ⟨mb, PB, FB⟩ := B
    simp only at pA pB
    subst pA pB
    unfold beforeS
    simp only [Bool.true_and]
    by_cases e : FA = FB
    · subst e
      cases ma <;> cases mb <;> simp
    · have e' : ¬ FB = FA := fun q => e q.symm
      by_cases l : FA < FB
      · have l' : ¬ FB < FA := by omega
        simp [e, e', l, l']
      · have l' : FB < FA := by omega
        simp [e, e', l, l']
def frO (τ ρ : St) : Prop := ∀ k x, ¬ (15 ≤ k ∧ k ≤ 25) → ¬ (104 ≤ k ∧ k ≤ 109) → gI ρ k x = gI τ k x ∧ gJ ρ k x = gJ τ k x ∧ gZ ρ k x = gZ τ k x
theorem frO_refl (τ : St) : frO τ τ := fun _ _ _ _ => ⟨rfl, rfl, rfl⟩
theorem frO_trans {τ ρ σ : St} (h : frO τ ρ) (g : frO ρ σ) : frO τ σ := fun k x a b => ⟨(g k x a b).1.trans (h k x a b).1, (g k x a b).2.1.trans (h k x a b).2.1, (g k x a b).2.2.trans (h k x a b).2.2⟩
theorem frO_W {τ ρ : St} (h : frW τ ρ) : frO τ ρ := fun k x a b => h k x (by omega) (by omega)
theorem frO_I (τ : St) (k o : Nat) (v : Int32) (hk : (15 ≤ k ∧ k ≤ 25) ∨ (104 ≤ k ∧ k ≤ 109)) : frO τ (sI τ k o v) := fun k' x a b => by
  refine ⟨?_, rfl, rfl⟩
  rw [gI_sI, if_neg (by omega)]
theorem frO_J (τ : St) (k o : Nat) (v : Int64) (hk : (15 ≤ k ∧ k ≤ 25) ∨ (104 ≤ k ∧ k ≤ 109)) : frO τ (sJ τ k o v) := fun k' x a b => by
  refine ⟨rfl, ?_, rfl⟩
  rw [gJ_sJ, if_neg (by omega)]
theorem frO_Z (τ : St) (k o : Nat) (v : Bool) (hk : (15 ≤ k ∧ k ≤ 25) ∨ (104 ≤ k ∧ k ≤ 109)) : frO τ (sZ τ k o v) := fun k' x a b => by
  refine ⟨rfl, rfl, ?_⟩
  rw [gZ_sZ, if_neg (by omega)]
/-- the operation's operands in their order -/
def ordA (o : Nat) (A B : Re) : Re := if o = 2 ∨ o = 5 then B else A
def ordB (o : Nat) (A B : Re) : Re := if o = 6 then A else if o = 2 ∨ o = 5 then A else B
def RdIs (τ s : St) (w : Nat) (X Y A B : Re) : Prop := frO τ s ∧ gI s 16 35 = nI w ∧ OpIs s 0 X.1 X.2.1 X.2.2 ∧ OpIs s 1 Y.1 Y.2.1 Y.2.2 ∧ RegIs s 104 105 0 A ∧ RegIs s 104 105 1 B ∧ gI s 21 35 = nI 0 ∧ gZ s 22 35 = false
theorem two_takes {s1 : St} {r0 r1 : Nat} {X Y : Re} (h0 : r0 < 2) (h1 : r1 < 2) (hX : RegIs s1 104 105 r0 X) (hY : RegIs s1 104 105 r1 Y) : OpIs (f_MO_take (f_MO_take s1 (nI 0) (nI r0)) (nI 1) (nI r1)) 0 X.1 X.2.1 X.2.2 ∧ OpIs (f_MO_take (f_MO_take s1 (nI 0) (nI r0)) (nI 1) (nI r1)) 1 Y.1 Y.2.1 Y.2.2 ∧ ∀ k x, k ≠ 106 → k ≠ 107 → k ≠ 108 → gI (f_MO_take (f_MO_take s1 (nI 0) (nI r0)) (nI 1) (nI r1)) k x = gI s1 k x ∧ gJ (f_MO_take (f_MO_take s1 (nI 0) (nI r0)) (nI 1) (nI r1)) k x = gJ s1 k x ∧ gZ (f_MO_take (f_MO_take s1 (nI 0) (nI r0)) (nI 1) (nI r1)) k x = gZ s1 k x := by
  obtain ⟨p1, p2, p3⟩ := take_get (i := 0) (by decide) h0 hX
  have hY' : RegIs (f_MO_take s1 (nI 0) (nI r0)) 104 105 r1 Y := ⟨by rw [(p3 104 r1 (by decide) (by decide) (by decide)).1]; exact hY.1, by rw [(p3 105 r1 (by decide) (by decide) (by decide)).2.1]; exact hY.2.1, hY.2.2⟩
  obtain ⟨q1, q2, q3⟩ := take_get (i := 1) (by decide) h1 hY'
  exact ⟨q2 0 _ _ _ (by decide) p1, q1, fun k x a b c => ⟨(q3 k x a b c).1.trans (p3 k x a b c).1, (q3 k x a b c).2.1.trans (p3 k x a b c).2.1, (q3 k x a b c).2.2.trans (p3 k x a b c).2.2⟩⟩
theorem read_M {τ s1 : St} {w r0 r1 : Nat} {X Y A B : Re} (f1 : frO τ s1) (w1 : gI s1 16 35 = nI w) (rA1 : RegIs s1 104 105 0 A) (rB1 : RegIs s1 104 105 1 B) (h0 : r0 < 2) (h1 : r1 < 2) (hX : RegIs s1 104 105 r0 X) (hY : RegIs s1 104 105 r1 Y) : RdIs τ (sZ (sI (f_MO_take (f_MO_take s1 (nI 0) (nI r0)) (nI 1) (nI r1)) 21 35 0) 22 35 false) w X Y A B := by
  obtain ⟨o1, q1, fr⟩ := two_takes h0 h1 hX hY
  generalize f_MO_take (f_MO_take s1 (nI 0) (nI r0)) (nI 1) (nI r1) = s3 at *
  have fW : frW s3 (sZ (sI s3 21 35 0) 22 35 false) := frW_trans (frW_I _ _ _ _ (by decide)) (frW_Z _ _ _ _ (by decide))
  have g21 : gI (sZ (sI s3 21 35 0) 22 35 false) 21 35 = nI 0 := by
    rw [gI_sZ, gI_sI, if_pos rfl, if_pos rfl, nI_0]
  have g22 : gZ (sZ (sI s3 21 35 0) 22 35 false) 22 35 = false := by rw [gZ_sZ, if_pos rfl, if_pos rfl]
  have f13 : frO s1 s3 := fun k x a b => fr k x (by omega) (by omega) (by omega)
  have o1' := OpIs_fr o1 fW
  have q1' := OpIs_fr q1 fW
  generalize sZ (sI s3 21 35 0) 22 35 false = s5 at *
  have gg : ∀ k x, k ≠ 106 → k ≠ 107 → k ≠ 108 → ¬ (18 ≤ k ∧ k ≤ 25) → k ≠ 109 → gI s5 k x = gI s1 k x ∧ gJ s5 k x = gJ s1 k x := fun k x a b c d e => ⟨(fW k x d e).1.trans (fr k x a b c).1, (fW k x d e).2.1.trans (fr k x a b c).2.1⟩
  refine ⟨frO_trans f1 (frO_trans f13 (frO_W fW)), ?_, o1', q1', ⟨?_, ?_, rA1.2.2⟩, ⟨?_, ?_, rB1.2.2⟩, g21, g22⟩
  · rw [(gg 16 35 (by decide) (by decide) (by decide) (by decide) (by decide)).1]
    exact w1
  · rw [(gg 104 0 (by decide) (by decide) (by decide) (by decide) (by decide)).1]
    exact rA1.1
  · rw [(gg 105 0 (by decide) (by decide) (by decide) (by decide) (by decide)).2]
    exact rA1.2.1
  · rw [(gg 104 1 (by decide) (by decide) (by decide) (by decide) (by decide)).1]
    exact rB1.1
  · rw [(gg 105 1 (by decide) (by decide) (by decide) (by decide) (by decide)).2]
    exact rB1.2.1
/-- what is done behind the reading -/
def OOut (s t : St) (w : Nat) (R : Nat × Ra) : Prop := frO s t ∧ gI t 21 35 = nI R.1 ∧ R.1 < 64 ∧ gZ t 22 35 = endsN w R.1 ∧ (endsN w R.1 = false → ∃ p : Int32, gI t 23 35 = (if R.2.1 = true then 32768 else 0) + p ∧ p.toInt = R.2.2.1 ∧ uN (gJ t 24 35) = R.2.2.2)
theorem OOut_W {s ρ t : St} {w : Nat} {R : Nat × Ra} (f : frO s ρ) (h : WOut ρ t w R) : OOut s t w R := ⟨frO_trans f (frO_W h.1), h.2⟩
theorem nan_branch {s : St} {w cnt : Nat} {A B : Re} (hc : cnt = 1 ∨ cnt = 2) (hw : w < 65536) (hwd : gI s 16 35 = nI w) (rA : RegIs s 104 105 0 A) (rB : RegIs s 104 105 1 B) (ht : gI s 21 35 = nI 0) (hn : isNan A.2.1 A.2.2 = true ∨ (cnt = 2 ∧ isNan B.2.1 B.2.2 = true)) : OOut s (f_MO_operate_b145 0 1 s (decide (cnt = 2))) w (1, asRa (if cnt = 2 then nanS A B else A)) := by
  obtain ⟨o1, q1, fr⟩ := two_takes (r0 := 0) (r1 := 1) (by decide) (by decide) rA rB
  have i0 : nI 0 = (0 : Int32) := rfl
  have i1 : nI 1 = (1 : Int32) := rfl
  rw [i0, i1] at o1 q1 fr
  have t8 : (if decide (cnt = 2) = true then (2 : Int32) else 1) = nI cnt := by
    rcases hc with rfl | rfl <;> rfl
  unfold f_MO_operate_b145
  simp only [t8]
  generalize f_MO_take (f_MO_take s 0 0) 1 1 = s3 at *
  have f3 : frO s s3 := fun k x a b => fr k x (by omega) (by omega) (by omega)
  refine OOut_W f3 (noNumber_M hc ?_ hw o1 q1 ⟨?_, ?_, rA.2.2⟩ ⟨?_, ?_, rB.2.2⟩ ?_ hn)
  · rw [(fr 16 35 (by decide) (by decide) (by decide)).1]
    exact hwd
  · rw [(fr 104 0 (by decide) (by decide) (by decide)).1]
    exact rA.1
  · rw [(fr 105 0 (by decide) (by decide) (by decide)).2.1]
    exact rA.2.1
  · rw [(fr 104 1 (by decide) (by decide) (by decide)).1]
    exact rB.1
  · rw [(fr 105 1 (by decide) (by decide) (by decide)).2.1]
    exact rB.2.1
  · rw [(fr 21 35 (by decide) (by decide) (by decide)).1]
    exact ht
theorem b176_M {s : St} {o w : Nat} {X Y : Re} (ho : o ≤ 6) (hw : w < 65536) (hwd : gI s 16 35 = nI w) (hX : OpIs s 0 X.1 X.2.1 X.2.2) (hY : OpIs s 1 Y.1 Y.2.1 Y.2.2) (ht : gI s 21 35 = nI 0) (hst : gZ s 22 35 = false) (nx : isNan X.2.1 X.2.2 = false) (ny : o ≠ 6 → isNan Y.2.1 Y.2.2 = false) : OOut s (f_MO_operate_b176 (nI o) s) w (opS (kOf o) w X (if o = 6 then X else Y)) := by
  have j1 : jat 1 = 1 := by decide
  have c1 : (nI o = 1) ↔ o = 1 := nI_eq (b := 1) (by omega) (by decide)
  have c2 : (nI o = 2) ↔ o = 2 := nI_eq (b := 2) (by omega) (by decide)
  have t7 : (if nI o = 1 then (if gZ s 106 1 = true then false else true) else if nI o = 2 then (if gZ s 106 1 = true then false else true) else gZ s 106 1) = turnB o Y := by
    rw [hY.1]
    unfold turnB
    simp only [c1, c2, not_if]
    by_cases d1 : o = 1
    · simp [d1]
    · by_cases d2 : o = 2
      · simp [d2]
      · simp [d1, d2]
  unfold f_MO_operate_b176 f_MO_operate_b191
  simp only [j1, t7]
  have f1 : frO s (sZ s 106 1 (turnB o Y)) := frO_Z _ _ _ _ (by decide)
  have hX' : OpIs (sZ s 106 1 (turnB o Y)) 0 X.1 X.2.1 X.2.2 := by
    refine ⟨?_, hX.2.1, hX.2.2.1, hX.2.2.2⟩
    rw [gZ_sZ, if_pos rfl, if_neg (by decide)]
    exact hX.1
  have hY' : OpIs (sZ s 106 1 (turnB o Y)) 1 (turnB o Y) Y.2.1 Y.2.2 := by
    refine ⟨?_, hY.2.1, hY.2.2.1, hY.2.2.2⟩
    rw [gZ_sZ, if_pos rfl, if_pos rfl]
  have w' : gI (sZ s 106 1 (turnB o Y)) 16 35 = nI w := hwd
  have t' : gI (sZ s 106 1 (turnB o Y)) 21 35 = nI 0 := ht
  have s' : gZ (sZ s 106 1 (turnB o Y)) 22 35 = false := by
    rw [gZ_sZ, if_neg (by decide)]
    exact hst
  by_cases o6 : o = 6
  · subst o6
    rw [if_pos rfl]
    refine OOut_W f1 (work6_M w' hw hX' (B := (turnB 6 Y, Y.2.1, Y.2.2)) hY' nx t' s')
  · rw [if_neg o6]
    exact OOut_W f1 (work_M (by omega) w' hw hX' hY' nx (ny o6) t' s')
theorem operate_M {τ : St} {o w : Nat} {A B : Re} (ho : o ≤ 6) (hwd : gI τ 16 35 = nI w) (hw : w < 65536) (rA : RegIs τ 104 105 0 A) (rB : RegIs τ 104 105 1 B) (R : Nat × Ra) (hR : R = opS (kOf o) w (ordA o A B) (ordB o A B)) :
    ∃ ρ : St, f_MO_operate τ (nI o) 0 1 2 = (nI R.1, ρ) ∧ frO τ ρ ∧ R.1 < 64 ∧ (endsN w R.1 = false → ∃ p : Int32, gI ρ 104 2 = (if R.2.1 = true then 32768 else 0) + p ∧ p.toInt = R.2.2.1 ∧ uN (gJ ρ 105 2) = R.2.2.2) := by
  have j0 : jat 0 = 0 := by decide
  have j1 : jat 1 = 1 := by decide
  have j2 : jat 2 = 2 := by decide
  have n0 : f_MO_none 0 = false := by decide
  have n1 : f_MO_none 1 = false := by decide
  have n2 : f_MO_none 2 = false := by decide
  have o0 : ¬ nI o < 0 := nI_pos (by omega)
  have o6 : nI o ≤ 6 := nI_le (b := 6) ho (by decide)
  have i0 : nI 0 = (0 : Int32) := rfl
  have i1 : nI 1 = (1 : Int32) := rfl
  have c2 : (nI o = 2) ↔ o = 2 := nI_eq (b := 2) (by omega) (by decide)
  have c5 : (nI o = 5) ↔ o = 5 := nI_eq (b := 5) (by omega) (by decide)
  have l6 : ((6 : Int32) ≤ nI o) ↔ 6 ≤ o := nI_leI (a := 6) (by decide) (by omega)
  have sw : (if nI o = 2 then true else if nI o = 5 then true else false) = decide (o = 2 ∨ o = 5) := by
    simp only [c2, c5]
    by_cases d1 : o = 2
    · simp [d1]
    · by_cases d2 : o = 5
      · simp [d2]
      · simp [d1, d2]
  have t5 : (if 6 ≤ nI o then false else true) = decide ((if o = 6 then 1 else 2) = 2) := by
    simp only [l6]
    by_cases d : o = 6
    · simp [d]
    · have : ¬ 6 ≤ o := by omega
      simp [d, this]
  have f1 : frO τ (sI τ 15 35 0) := frO_I _ _ _ _ (by decide)
  have g15 : gI (sI τ 15 35 0) 15 35 ≤ 0 := by
    rw [gI_sI, if_pos rfl, if_pos rfl]
    decide
  have w1 : gI (sI τ 15 35 0) 16 35 = nI w := hwd
  have rA1 : RegIs (sI τ 15 35 0) 104 105 0 A := rA
  have rB1 : RegIs (sI τ 15 35 0) 104 105 1 B := rB
  obtain ⟨s5, hs5, rd⟩ : ∃ s5 : St, sZ (sI (f_MO_take (f_MO_take (sI τ 15 35 0) 0 (if decide (o = 2 ∨ o = 5) = true then 1 else 0)) 1 (if decide (o = 2 ∨ o = 5) = true then 0 else 1)) 21 35 0) 22 35 false = s5 ∧ RdIs τ s5 w (ordA o A B) (if o = 2 ∨ o = 5 then A else B) A B := by
    refine ⟨_, rfl, ?_⟩
    unfold ordA
    by_cases sp : o = 2 ∨ o = 5
    · rw [decide_eq_true sp, if_pos sp, if_pos sp]
      exact read_M f1 w1 rA1 rB1 (r0 := 1) (r1 := 0) (by decide) (by decide) rB1 rA1
    · rw [decide_eq_false sp, if_neg sp, if_neg sp]
      exact read_M f1 w1 rA1 rB1 (r0 := 0) (r1 := 1) (by decide) (by decide) rA1 rB1
  obtain ⟨f5, w5, a5, b5, rA5, rB5, t50, st5⟩ := rd
  have oo : OOut s5 (if f_MO_isNone s5 0 = true then f_MO_operate_b145 0 1 s5 (decide ((if o = 6 then 1 else 2) = 2)) else if decide ((if o = 6 then 1 else 2) = 2) = true then if f_MO_isNone s5 1 = true then f_MO_operate_b145 0 1 s5 (decide ((if o = 6 then 1 else 2) = 2)) else f_MO_operate_b176 (nI o) s5 else f_MO_operate_b176 (nI o) s5) w R := by
    rw [none_M j0 a5, none_M j1 b5]
    by_cases h6 : o = 6
    · subst h6
      have eA : ordA 6 A B = A := rfl
      have eB : ordB 6 A B = A := rfl
      rw [eA] at a5 ⊢
      rw [eA, eB] at hR
      simp only [if_true, show ¬ ((1 : Nat) = 2) by decide, decide_false, Bool.false_eq_true, if_false]
      by_cases na : isNan A.2.1 A.2.2 = true
      · have := nan_branch (cnt := 1) (Or.inl rfl) hw w5 rA5 rB5 t50 (Or.inl na)
        have e : R = (1, asRa A) := by
          rw [hR]
          unfold opS
          rw [na]
          have : nanS A A = A := by unfold nanS; split <;> rfl
          rw [this]
          rfl
        rw [e]
        simp only [na, if_true]
        exact this
      · have na' : isNan A.2.1 A.2.2 = false := by simpa using na
        simp only [na', Bool.false_eq_true, if_false]
        rw [hR]
        have := b176_M (o := 6) (by decide) hw w5 a5 b5 t50 st5 na' (fun q => absurd rfl q)
        rw [if_pos rfl] at this
        exact this
    · have eB : ordB o A B = (if o = 2 ∨ o = 5 then A else B) := by unfold ordB; rw [if_neg h6]
      simp only [h6, if_false, decide_true, if_true]
      rw [eB] at hR
      have sym : (isNan (ordA o A B).2.1 (ordA o A B).2.2 || isNan (if o = 2 ∨ o = 5 then A else B).2.1 (if o = 2 ∨ o = 5 then A else B).2.2) = (isNan A.2.1 A.2.2 || isNan B.2.1 B.2.2) := by
        unfold ordA
        by_cases sp : o = 2 ∨ o = 5
        · rw [if_pos sp, if_pos sp, Bool.or_comm]
        · rw [if_neg sp, if_neg sp]
      by_cases nn : (isNan (ordA o A B).2.1 (ordA o A B).2.2 || isNan (if o = 2 ∨ o = 5 then A else B).2.1 (if o = 2 ∨ o = 5 then A else B).2.2) = true
      · have br : ∀ P Q : St, (if isNan (ordA o A B).2.1 (ordA o A B).2.2 = true then P else if isNan (if o = 2 ∨ o = 5 then A else B).2.1 (if o = 2 ∨ o = 5 then A else B).2.2 = true then P else Q) = P := fun P Q => by
          cases h1 : isNan (ordA o A B).2.1 (ordA o A B).2.2
          · cases h2 : isNan (if o = 2 ∨ o = 5 then A else B).2.1 (if o = 2 ∨ o = 5 then A else B).2.2
            · rw [h1, h2] at nn
              cases nn
            · rfl
          · rfl
        rw [br]
        have nn2 := nn
        rw [sym] at nn2
        have := nan_branch (cnt := 2) (Or.inr rfl) hw w5 rA5 rB5 t50 (by
          cases h1 : isNan A.2.1 A.2.2
          · right
            rw [h1, Bool.false_or] at nn2
            exact ⟨rfl, nn2⟩
          · exact Or.inl rfl)
        have e : R = (1, asRa (nanS A B)) := by
          rw [hR]
          unfold opS
          rw [nn]
          have : nanS (ordA o A B) (if o = 2 ∨ o = 5 then A else B) = nanS A B := by
            unfold ordA
            by_cases sp : o = 2 ∨ o = 5
            · rw [if_pos sp, if_pos sp]
              exact (nanS_comm nn2).symm
            · rw [if_neg sp, if_neg sp]
          rw [this]
          rfl
        rw [e]
        exact this
      · have nn' : (isNan (ordA o A B).2.1 (ordA o A B).2.2 || isNan (if o = 2 ∨ o = 5 then A else B).2.1 (if o = 2 ∨ o = 5 then A else B).2.2) = false := by simpa using nn
        obtain ⟨h1, h2⟩ := Bool.or_eq_false_iff.mp nn'
        simp only [h1, h2, Bool.false_eq_true, if_false]
        rw [hR]
        have := b176_M (o := o) ho hw w5 a5 b5 t50 st5 h1 (fun _ => h2)
        rw [if_neg h6] at this
        exact this
  generalize ht6 : (if f_MO_isNone s5 0 = true then f_MO_operate_b145 0 1 s5 (decide ((if o = 6 then 1 else 2) = 2)) else if decide ((if o = 6 then 1 else 2) = 2) = true then if f_MO_isNone s5 1 = true then f_MO_operate_b145 0 1 s5 (decide ((if o = 6 then 1 else 2) = 2)) else f_MO_operate_b176 (nI o) s5 else f_MO_operate_b176 (nI o) s5) = t6 at oo
  obtain ⟨f6, g6, r6, st6, an6⟩ := oo
  have g22 : gZ (sI t6 17 35 (gI t6 17 35 ||| gI t6 21 35)) 22 35 = endsN w R.1 := st6
  have run : f_MO_operate τ (nI o) 0 1 2 = (gI (if endsN w R.1 = true then sI t6 17 35 (gI t6 17 35 ||| gI t6 21 35) else sJ (sI (sI t6 17 35 (gI t6 17 35 ||| gI t6 21 35)) 104 2 (gI (sI t6 17 35 (gI t6 17 35 ||| gI t6 21 35)) 23 35)) 105 2 (gJ (sI (sI t6 17 35 (gI t6 17 35 ||| gI t6 21 35)) 104 2 (gI (sI t6 17 35 (gI t6 17 35 ||| gI t6 21 35)) 23 35)) 24 35)) 21 35, if endsN w R.1 = true then sI t6 17 35 (gI t6 17 35 ||| gI t6 21 35) else sJ (sI (sI t6 17 35 (gI t6 17 35 ||| gI t6 21 35)) 104 2 (gI (sI t6 17 35 (gI t6 17 35 ||| gI t6 21 35)) 23 35)) 105 2 (gJ (sI (sI t6 17 35 (gI t6 17 35 ||| gI t6 21 35)) 104 2 (gI (sI t6 17 35 (gI t6 17 35 ||| gI t6 21 35)) 23 35)) 24 35)) := by
    unfold f_MO_operate
    simp only [n0, n1, n2, Bool.false_eq_true, if_false, o0, o6, if_true, g15, sw, hs5, t5, ht6, g22, j2]
  cases hE : endsN w R.1 with
  | true =>
    rw [hE] at run
    simp only [if_true] at run
    refine ⟨sI t6 17 35 (gI t6 17 35 ||| gI t6 21 35), ?_, frO_trans f5 (frO_trans f6 (frO_I _ 17 _ _ (by decide))), r6, fun q => by cases q⟩
    rw [run]
    exact congrArg (fun z => (z, _)) g6
  | false =>
    rw [hE] at run
    simp only [Bool.false_eq_true, if_false] at run
    obtain ⟨p, p1, p2, p3⟩ := an6 hE
    refine ⟨sJ (sI (sI t6 17 35 (gI t6 17 35 ||| gI t6 21 35)) 104 2 (gI (sI t6 17 35 (gI t6 17 35 ||| gI t6 21 35)) 23 35)) 105 2 (gJ (sI (sI t6 17 35 (gI t6 17 35 ||| gI t6 21 35)) 104 2 (gI (sI t6 17 35 (gI t6 17 35 ||| gI t6 21 35)) 23 35)) 24 35), ?_, frO_trans f5 (frO_trans f6 (frO_trans (frO_I _ 17 35 _ (by decide)) (frO_trans (frO_I _ 104 2 _ (by decide)) (frO_J _ 105 2 _ (by decide))))), r6, fun _ => ⟨p, ?_, p2, ?_⟩⟩
    · rw [run]
      exact congrArg (fun z => (z, _)) g6
    · rw [gI_sJ, gI_sI, if_pos rfl, if_pos rfl]
      exact p1
    · rw [gJ_sJ, if_pos rfl, if_pos rfl]
      exact p3
