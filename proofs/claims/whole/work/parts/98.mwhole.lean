/-! the reference's whole numbers -/
def frM (τ ρ : St) : Prop := ∀ k x, ¬ (26 ≤ k ∧ k ≤ 36) → k ≠ 110 → k ≠ 111 → gI ρ k x = gI τ k x ∧ gJ ρ k x = gJ τ k x ∧ gZ ρ k x = gZ τ k x
theorem frM_refl (τ : St) : frM τ τ := fun _ _ _ _ _ => ⟨rfl, rfl, rfl⟩
theorem frM_trans {τ ρ σ : St} (h : frM τ ρ) (g : frM ρ σ) : frM τ σ := fun k x a b c => ⟨(g k x a b c).1.trans (h k x a b c).1, (g k x a b c).2.1.trans (h k x a b c).2.1, (g k x a b c).2.2.trans (h k x a b c).2.2⟩
theorem frM_T {τ ρ : St} (h : frT τ ρ) : frM τ ρ := fun k x a _ _ => h k x (by omega)
theorem frM_I (τ : St) (k o : Nat) (v : Int32) (hk : (26 ≤ k ∧ k ≤ 36) ∨ k = 110 ∨ k = 111) : frM τ (sI τ k o v) := fun k' x a b c => by
  refine ⟨?_, rfl, rfl⟩
  rw [gI_sI, if_neg (by omega)]
theorem frM_J (τ : St) (k o : Nat) (v : Int64) (hk : (26 ≤ k ∧ k ≤ 36) ∨ k = 110 ∨ k = 111) : frM τ (sJ τ k o v) := fun k' x a b c => by
  refine ⟨rfl, ?_, rfl⟩
  rw [gJ_sJ, if_neg (by omega)]
theorem frM_Z (τ : St) (k o : Nat) (v : Bool) (hk : (26 ≤ k ∧ k ≤ 36) ∨ k = 110 ∨ k = 111) : frM τ (sZ τ k o v) := fun k' x a b c => by
  refine ⟨rfl, rfl, ?_⟩
  rw [gZ_sZ, if_neg (by omega)]
/-- behind a step that is called from outside: its number, and the answer's register -/
def KOut (τ : St) (r : Int32 × St) (w to : Nat) (R : Nat × Ra) : Prop := r.1 = nI R.1 ∧ frM τ r.2 ∧ R.1 < 64 ∧ (endsN w R.1 = false → ∃ p : Int32, gI r.2 110 to = sgT R.2.1 + p ∧ p.toInt = R.2.2.1 ∧ uN (gJ r.2 111 to) = R.2.2.2)
theorem keep_S {τ s t : St} {w to : Nat} {R : Nat × Ra} (hto : to < 8) (f : frM τ s) (h : SOut s t w R) : KOut τ (gI (f_MS_keep t (nI to)) 28 42, f_MS_keep t (nI to)) w to R := by
  obtain ⟨h1, h2, h3, h4, h5⟩ := h
  unfold f_MS_keep
  rw [h4]
  cases he : endsN w R.1 with
  | true =>
    simp only [Bool.not_true, Bool.false_eq_true, if_false]
    exact ⟨h2, frM_trans f (frM_T h1), h3, fun q => by rw [he] at q; cases q⟩
  | false =>
    simp only [Bool.not_false, if_true, jat_nI (show to < 2 ^ 31 by omega)]
    obtain ⟨p, p1, p2, p3⟩ := h5 he
    refine ⟨?_, ?_, h3, fun _ => ⟨p, ?_, p2, ?_⟩⟩
    · show gI (sJ (sI t 110 to (gI t 32 42)) 111 to (gJ (sI t 110 to (gI t 32 42)) 33 42)) 28 42 = nI R.1
      rw [gI_sJ, gI_sI, if_neg (by decide)]
      exact h2
    · exact frM_trans f (frM_trans (frM_T h1) (frM_trans (frM_I _ 110 _ _ (by decide)) (frM_J _ 111 _ _ (by decide))))
    · show gI (sJ (sI t 110 to (gI t 32 42)) 111 to (gJ (sI t 110 to (gI t 32 42)) 33 42)) 110 to = _
      rw [gI_sJ, gI_sI, if_pos rfl, if_pos rfl]
      exact p1
    · show uN (gJ (sJ (sI t 110 to (gI t 32 42)) 111 to (gJ (sI t 110 to (gI t 32 42)) 33 42)) 111 to) = _
      rw [gJ_sJ, if_pos rfl, if_pos rfl]
      exact p3
/-- what is made at the end of a step -/
theorem SOut_make {s x : St} {w D : Nat} {f : Int64} {U : Int32} {u : Int} {m : Bool} {R : Nat × Int × Nat} (hf : frT s x) (hwd : gI x 27 42 = nI w) (hw : w < 65536) (ht : gI x 28 42 = nI D) (hD : D < 64) (he : endsN w D = false) (hU : U.toInt = u) (hub : -37000 ≤ u ∧ u ≤ 37000) (hR : R = SPz w 64 m (uN f) false u) : SOut s (f_MS_make x m f U) w (D ||| R.1, m, R.2) := by
  obtain ⟨b, pw, F, c1, c2, c3⟩ := msmake_M hwd hw ht hD hU hub R hR
  have r1 : R.1 < 64 ∧ R.1 % 8 = 0 := by
    rw [hR]
    have := SPz_told w 64 m (uN f) false u
    omega
  have e0 := ends8 (w := w) (d0 := 0) r1.2 (by decide)
  rw [Nat.zero_add] at e0
  rw [c1]
  unfold mss
  have f2 : frT s (sI (sZ x 36 42 b) 28 42 (nI (D ||| R.1))) := frT_trans hf (frT_trans (frT_Z _ 36 42 _ (by decide)) (frT_I _ 28 42 _ (by decide)))
  refine SOut_ans f2 (by simp [gI_sI]) (or_lt64 hD r1.1) ?_ c2 c3
  rw [endsN_or, he, e0, ends0]
  rfl
theorem begin_S {τ : St} {w : Nat} (hwd : gI τ 27 42 = nI w) : frM τ (f_MS_begin (sI τ 26 42 0)) ∧ gI (f_MS_begin (sI τ 26 42 0)) 27 42 = nI w ∧ gI (f_MS_begin (sI τ 26 42 0)) 28 42 = nI 0 ∧ gZ (f_MS_begin (sI τ 26 42 0)) 29 42 = false ∧ ∀ k x, k = 110 ∨ k = 111 → gI (f_MS_begin (sI τ 26 42 0)) k x = gI τ k x ∧ gJ (f_MS_begin (sI τ 26 42 0)) k x = gJ τ k x := by
  unfold f_MS_begin
  simp only []
  refine ⟨frM_trans (frM_I _ 26 _ _ (by decide)) (frM_trans (frM_I _ 28 _ _ (by decide)) (frM_Z _ 29 _ _ (by decide))), ?_, ?_, ?_, fun k x hk => ?_⟩
  · rw [gI_sZ, gI_sI, if_neg (by decide), gI_sI, if_neg (by decide)]
    exact hwd
  · rw [gI_sZ, gI_sI, if_pos rfl, if_pos rfl, nI_0]
  · rw [gZ_sZ, if_pos rfl, if_pos rfl]
  · refine ⟨?_, rfl⟩
    rw [gI_sZ, gI_sI, if_neg (by omega), gI_sI, if_neg (by omega)]
theorem none_S : ∀ r, r < 8 → f_MS_none (nI r) = false := by decide
theorem RegIs_keys {τ ρ : St} {i : Nat} {A : Re} (h : RegIs τ 110 111 i A) (f : ∀ k x, k = 110 ∨ k = 111 → gI ρ k x = gI τ k x ∧ gJ ρ k x = gJ τ k x) : RegIs ρ 110 111 i A := ⟨by rw [(f 110 i (Or.inl rfl)).1]; exact h.1, by rw [(f 111 i (Or.inr rfl)).2]; exact h.2.1, h.2.2⟩
theorem setS_none {w : Nat} {A B : Re} {cn : Bool} (h : setS w A B cn = none) : (isNan A.2.1 A.2.2 || isNan B.2.1 B.2.2) = false ∧ cn = false ∧ (denS A B = 0 ∨ denS A B = 2) ∧ endsN w (denS A B) = false := by
  unfold setS at h
  have d2 : denS A B = 0 ∨ denS A B = 2 := by unfold denS; split <;> simp
  cases h1 : (isNan A.2.1 A.2.2 || isNan B.2.1 B.2.2)
  · rw [h1] at h
    simp only [Bool.false_eq_true, if_false] at h
    cases h2 : cn
    · rw [h2] at h
      simp only [Bool.false_eq_true, if_false] at h
      refine ⟨rfl, rfl, d2, ?_⟩
      by_cases c : denS A B = 2 ∧ w / 2 % 2 = 0
      · rw [if_pos c] at h
        cases h
      · unfold endsN
        rcases d2 with q | q
        · rw [q]
          simp
        · have : ¬ w / 2 % 2 = 0 := fun z => c ⟨q, z⟩
          rw [q]
          simp [this]
    · rw [h2] at h
      cases h
  · rw [h1] at h
    cases h
theorem mswhole_M {τ : St} {w : Nat} {A : Re} (hA : RegIs τ 110 111 0 A) (hwd : gI τ 27 42 = nI w) (hw : w < 65536) : KOut τ (f_MS_whole τ 0 2) w 2 (wholeS w A) := by
  have z0 : (0 : Int32) = nI 0 := rfl
  have z2 : (2 : Int32) = nI 2 := rfl
  have j0 : jat 0 = 0 := by decide
  have n0 : f_MS_none 0 = false := by decide
  have n2 : f_MS_none 2 = false := by decide
  obtain ⟨b1, b2, b3, b4, b5⟩ := begin_S hwd
  have hA2 := RegIs_keys hA b5
  have e0 : bI false = (0 : Int32) := rfl
  have g26 : gI (sI τ 26 42 0) 26 42 ≤ 0 := by
    rw [gI_sI, if_pos rfl, if_pos rfl]
    decide
  have goal : ∀ t2 : St, SOut (f_MS_begin (sI τ 26 42 0)) t2 w (wholeS w A) → KOut τ (gI (f_MS_keep t2 2) 28 42, f_MS_keep t2 2) w 2 (wholeS w A) := fun t2 h => by
    rw [z2]
    exact keep_S (by decide) b1 h
  unfold f_MS_whole
  simp only [n0, n2, Bool.false_eq_true, if_false, e0, g26, if_true]
  generalize f_MS_begin (sI τ 26 42 0) = s at *
  apply goal
  unfold wholeS
  rcases goes_n (can := true) j0 hA2 b2 hw b3 b4 with ⟨R, ρ, e1, e2, e3⟩ | ⟨ρ, e1, e2, e3, e4, e5⟩
  · have e1' : setS w A A false = some R := e1
    rw [e1', e2]
    simp only [Bool.false_eq_true, if_false]
    exact e3
  · have e1' : setS w A A false = none := e1
    rw [e1', e2]
    simp only [if_true]
    show SOut s _ w (if isInf A.2.1 A.2.2 then _ else _)
    obtain ⟨-, -, d2, en⟩ := setS_none e1'
    have rA := RegIs_T hA2 e3
    have wd : gI ρ 27 42 = nI w := by rw [(e3 27 42 (by decide)).1]; exact b2
    have dl : denS A A < 64 := by omega
    simp only [sinf_M j0 rA]
    by_cases hi : isInf A.2.1 A.2.2 = true
    · rw [if_pos hi, if_pos hi]
      have r1 : gI ρ 110 (jat 0) = sgT A.1 + nI A.2.1 := by rw [j0, rA.1]; exact top_sg A
      rw [r1]
      exact SOut_ans (P := (A.2.1 : Int)) e3 e4 dl en (nI_toInt (by have := rA.2.2; omega)) (by rw [j0]; exact rA.2.1)
    · rw [if_neg hi, if_neg hi]
      have su := sunit_M j0 rA
      have er := unitN_rng rA.2.2
      have mn := sminus_M j0 rA
      have fr : gJ ρ 111 (jat 0) = gJ ρ 111 0 := by rw [j0]
      have bF := uN_lt2 (gJ ρ 111 0)
      rw [rA.2.1] at bF
      have cu : (f_MS_unit ρ 0 < 0) ↔ unitN A.2.1 < 0 := by
        rw [Int32.lt_iff_toInt_lt, su]
        exact Iff.rfl
      by_cases c : unitN A.2.1 < 0
      · rw [if_pos (cu.mpr c)]
        obtain ⟨n, hn⟩ : ∃ n : Nat, unitN A.2.1 = -(n : Int) := ⟨(-(unitN A.2.1)).toNat, by omega⟩
        have ng := neg_I su hn (by omega)
        obtain ⟨W, r1, r2⟩ := rounded_M (τ := ρ) (f := gJ ρ 111 0) (neg := A.1) (n := n) wd hw (by omega) (by omega) _ rfl
        have x : (uN (gJ ρ 111 0) / 2 ^ n, hb (uN (gJ ρ 111 0)) n, rsb (uN (gJ ρ 111 0)) n false) = RQ A.2.2 false (unitN A.2.1) 0 := by
          rw [rA.2.1, RQ_ge n (by omega)]
        rw [x] at r1 r2
        rw [fr, ng, mn, r1]
        simp only []
        have g36 : gZ (sZ ρ 36 42 (lossy (RQ A.2.2 false (unitN A.2.1) 0))) 36 42 = lossy (RQ A.2.2 false (unitN A.2.1) 0) := by simp [gZ_sZ]
        rw [g36]
        have f2 : frT ρ (sZ ρ 36 42 (lossy (RQ A.2.2 false (unitN A.2.1) 0))) := frT_Z _ 36 42 _ (by decide)
        have wd2 : gI (sZ ρ 36 42 (lossy (RQ A.2.2 false (unitN A.2.1) 0))) 27 42 = nI w := wd
        have t2 : gI (sZ ρ 36 42 (lossy (RQ A.2.2 false (unitN A.2.1) 0))) 28 42 = nI (denS A A) := e4
        have tl := tell_S wd2 hw t2 dl 5 (by decide)
        have n32 : nI (2 ^ 5) = (32 : Int32) := rfl
        rw [n32, show (2 : Nat) ^ 5 = 32 from rfl] at tl
        generalize hx : RQ A.2.2 false (unitN A.2.1) 0 = y at *
        generalize sZ ρ 36 42 (lossy y) = s2 at *
        obtain ⟨s3, hs3, f3, w3, t3⟩ : ∃ s3 : St, (if lossy y = true then (f_MS_tell s2 32).2 else s2) = s3 ∧ frT ρ s3 ∧ gI s3 27 42 = nI w ∧ gI s3 28 42 = nI (denS A A ||| (if lossy y then 32 else 0)) := by
          cases lossy y
          · exact ⟨s2, rfl, f2, wd2, by simp; exact t2⟩
          · refine ⟨_, rfl, ?_, ?_, ?_⟩
            · simp only [if_true, tl]
              exact frT_trans f2 (frT_I _ 28 42 _ (by decide))
            · simp only [if_true, tl]
              exact wd2
            · simp only [if_true, tl]
              simp [gI_sI]
        rw [hs3]
        have rA3 := RegIs_T rA f3
        rw [sminus_M j0 rA3]
        have lL : (if lossy y then 32 else 0) < 64 := by split <;> decide
        have enL : endsN w (denS A A ||| (if lossy y then 32 else 0)) = false := by
          rw [endsN_or, en]
          split
          · have := ends8 (w := w) (d0 := 0) (s := 32) (by decide) (by decide)
            rw [Nat.zero_add] at this
            rw [this, ends0]
            rfl
          · rw [ends0]
            rfl
        exact SOut_make (frT_trans e3 f3) w3 hw t3 (or_lt64 dl lL) enL (u := 0) rfl (by decide) (by rw [r2])
      · rw [if_neg (fun q => c (cu.mp q))]
        obtain ⟨d, hd⟩ : ∃ d : Nat, unitN A.2.1 = 0 + d := ⟨(unitN A.2.1).toNat, by omega⟩
        have x : RQ A.2.2 false (unitN A.2.1) 0 = (A.2.2 * 2 ^ d, false, false) := by
          by_cases d0 : d = 0
          · subst d0
            rw [RQ_ge 0 (by omega)]
            unfold hb rsb
            simp [Nat.mod_one]
          · exact RQ_lt d hd (by omega)
        have rn : rnd (wayOf w) A.1 (RQ A.2.2 false (unitN A.2.1) 0) = A.2.2 * 2 ^ d := by
          rw [x]
          unfold rnd upS lossy
          simp
        have ly : lossy (RQ A.2.2 false (unitN A.2.1) 0) = false := by rw [x]; rfl
        have sc : SPz w 64 A.1 (A.2.2 * 2 ^ d) false 0 = SPz w 64 A.1 A.2.2 false (unitN A.2.1) := by
          have := SPz_scale w 64 A.1 A.2.2 false (unitN A.2.1) d
          have e0 : unitN A.2.1 - (d : Int) = 0 := by omega
          rw [e0] at this
          exact this
        rw [mn, fr, ly, rn, sc]
        have := SOut_make (s := s) (m := A.1) (f := gJ ρ 111 0) e3 wd hw e4 dl en su ⟨by omega, by omega⟩ (R := SPz w 64 A.1 A.2.2 false (unitN A.2.1)) (by rw [rA.2.1])
        simp only [Bool.false_eq_true, if_false, Nat.or_zero]
        exact this
