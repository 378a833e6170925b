/-! each call of the law on both sides, and the states at rest -/
theorem word_CP {σ : St} {a : Int32} (h : badI a 7 = false) : f_PS_word σ a = c_word σ a := by
  have h7 : ¬ a = 0 → ¬ a = 1 → ¬ a = 2 → ¬ a = 3 → ¬ a = 4 → ¬ a = 5 → ¬ a = 6 → a = 7 := by
    obtain ⟨k, rfl, hk⟩ := i32_ok (N := 7) (by decide) h
    have h8 : k = 0 ∨ k = 1 ∨ k = 2 ∨ k = 3 ∨ k = 4 ∨ k = 5 ∨ k = 6 ∨ k = 7 := by omega
    intro q0 q1 q2 q3 q4 q5 q6
    rcases h8 with rfl | rfl | rfl | rfl | rfl | rfl | rfl | rfl
    · exact absurd rfl q0
    · exact absurd rfl q1
    · exact absurd rfl q2
    · exact absurd rfl q3
    · exact absurd rfl q4
    · exact absurd rfl q5
    · exact absurd rfl q6
    · rfl
  unfold f_PS_word c_word
  try dsimp only
  by_cases a0 : a = 0
  · rw [if_pos a0, if_pos a0]
  · rw [if_neg a0, if_neg a0]
    by_cases a1 : a = 1
    · rw [if_pos a1, if_pos a1]
    · rw [if_neg a1, if_neg a1]
      by_cases a2 : a = 2
      · rw [if_pos a2, if_pos a2]
      · rw [if_neg a2, if_neg a2]
        by_cases a3 : a = 3
        · rw [if_pos a3, if_pos a3]
          by_cases x : f_PS_status σ &&& 128 = 0
          · rw [if_pos x, if_pos x]; rfl
          · rw [if_neg x, if_neg x]
            by_cases y : gI σ 6 3 &&& 128 = 0
            · rw [if_pos y, if_pos y]; rfl
            · rw [if_neg y, if_neg y]; rfl
        · rw [if_neg a3, if_neg a3]
          by_cases a4 : a = 4
          · rw [if_pos a4, if_pos a4]
          · rw [if_neg a4, if_neg a4]
            by_cases a5 : a = 5
            · rw [if_pos a5, if_pos a5]
            · rw [if_neg a5, if_neg a5]
              by_cases a6 : a = 6
              · rw [if_pos a6, if_pos a6]
              · rw [if_neg a6, if_neg a6, if_pos (h7 a0 a1 a2 a3 a4 a5 a6)]
theorem needs_CP (σ : St) (a b : Int32) : f_PS_needs σ a b = c_needs a b := by
  unfold f_PS_needs c_needs
  try dsimp only
  by_cases h : b < 192
  · rw [if_pos h, if_neg (fun q => absurd (Int32.not_le.mpr h) (fun z => z q))]
  · rw [if_neg h, if_pos (Int32.not_lt.mp h)]
theorem exec_CP (σ : St) (a b c d : Int32) : f_PS_execute σ a b c d = c_exec σ a b c d := by
  unfold f_PS_execute c_exec
  try dsimp only
  by_cases h0 : f_PS_sortOf σ a b = 0
  · rw [if_pos h0, if_pos h0]
    by_cases h : b < 192
    · rw [if_pos h, if_neg (fun q => absurd (Int32.not_le.mpr h) (fun z => z q))]
      by_cases k : f_PS_keepsPointers a b = true
      · rw [if_pos k, if_pos k]
      · rw [if_neg k, if_neg k]
    · rw [if_neg h, if_pos (Int32.not_lt.mp h)]
      by_cases k : f_PS_keepsPointers a b = true
      · rw [if_pos k, if_pos k]
      · rw [if_neg k, if_neg k]
  · rw [if_neg h0, if_neg h0]
theorem hq_ok {σ : St} {a b : Int32} : a = 1 → 192 ≤ b → jshr b 3 &&& 7 = 5 → f_PS_sortOf σ a b = 0 → vp_in (b &&& 7) 7 := by
  intro h1 h2 h3 h4
  obtain ⟨j, hj, e⟩ := vp_in_of (pk_andIn b (m := 7) 3 rfl (by decide)) (by decide)
  rw [e]
  have h7 : j ≠ 7 := by
    rintro rfl
    unfold f_PS_sortOf at h4
    try dsimp only at h4
    rw [if_pos h2, if_pos h1, h3, if_neg (by decide), e, h1] at h4
    revert h4
    decide
  exact vp_in_nI (by omega) (by decide)
theorem memb_of {σ τ : St} (h : Rest σ τ) : memb τ := by
  obtain ⟨b, b1, b2, b3, -⟩ := h
  have f : ∀ k, k < 94 → 0 ≤ (gI τ 100 k).toInt ∧ (gI τ 100 k).toInt ≤ 255 := fun k hk => by
    have e := b3.m k hk
    have l := b1.m k
    rw [e, nI_toInt (by omega)]
    omega
  exact ⟨f 2 (by decide), f 3 (by decide)⟩
theorem le93_lt {x : Int32} (h : x ≤ 93) : x < 94 := by
  rw [Int32.lt_iff_toInt_lt]
  rw [Int32.le_iff_toInt_le] at h
  have e1 : (94 : Int32).toInt = 94 := by decide
  have e2 : (93 : Int32).toInt = 93 := by decide
  omega
section Q0
variable {l : Launch} {E : Ev} {σ τ : St} {q : Int64}
theorem case_memory (hl0 : l.stackTraces = false) (h : Rest σ τ) (a1 a2 : Int32) : ∃ (kr : Int32) (σ1 : St) (q1 : Int64), HF l y_Law_memory method_3_code 4 [(0, 6, 9, 13)] rmH E [.ref 0, .int a1, .int a2] (σ, τ, q) kr (σ1, τ, q1) ∧ gI (f_M_memory τ a1 a2) 0 30 = kr ∧ Rest σ1 (f_M_memory τ a1 a2) := by
  cases hb : badI a1 90 with
  | true => exact ⟨1, σ, q, ht_memory l hl0 E σ τ q a1 a2 hb, (memory_J h a1 a2).1 hb⟩
  | false =>
    obtain ⟨c1, c2⟩ := badI_no hb
    exact ⟨0, f_PS_memory σ a1 a2, q, hn_memory l E σ τ q a1 a2 c1 c2, (memory_J h a1 a2).2 hb⟩
theorem case_byteAt (hl0 : l.stackTraces = false) (h : Rest σ τ) (a1 : Int32) : ∃ (kr : Int32) (σ1 : St) (q1 : Int64), HF l y_Law_byteAt method_4_code 4 [(0, 9, 12, 13)] rmH E [.ref 0, .int a1, .ref 49] (σ, τ, q) kr (σ1, τ, q1) ∧ gI (f_M_byteAt τ a1).2 0 30 = kr ∧ (kr = 0 → q1 = (f_M_byteAt τ a1).1.toInt64) ∧ Rest σ1 (f_M_byteAt τ a1).2 := by
  obtain ⟨j1, j2, j3⟩ := byteAt_J h a1
  cases hb : badI a1 93 with
  | true =>
    rw [hb] at j1
    exact ⟨1, σ, q, ht_byteAt l hl0 E σ τ q a1 hb, j1, fun z => absurd z (by decide), j2⟩
  | false =>
    rw [hb] at j1
    obtain ⟨c1, c2⟩ := badI_no hb
    exact ⟨0, σ, (f_PS_byteAt σ a1).toInt64, hn_byteAt l E σ τ q a1 c1 (le93_lt c2), j1, fun _ => by rw [← j3 hb]; rfl, j2⟩
theorem case_execute (hl0 : l.stackTraces = false) (h : Rest σ τ) (a1 a2 a3 a4 : Int32) : ∃ (kr : Int32) (σ1 : St) (q1 : Int64), HF l y_Law_execute method_5_code 7 [(0, 14, 17, 23)] rmH E [.ref 0, .int a1, .int a2, .int a3, .int a4, .ref 49] (σ, τ, q) kr (σ1, τ, q1) ∧ gI (f_M_execute τ a1 a2 a3 a4).2 0 30 = kr ∧ (kr = 0 → q1 = (f_M_execute τ a1 a2 a3 a4).1.toInt64) ∧ Rest σ1 (f_M_execute τ a1 a2 a3 a4).2 := by
  obtain ⟨j1, j2, j3⟩ := exec_J h a1 a2 a3 a4
  cases hb : badX a1 a2 a3 a4 with
  | true =>
    rw [hb] at j1
    exact ⟨1, σ, q, ht_execute l hl0 E σ τ q a1 a2 a3 a4 hb, j1, fun z => absurd z (by decide), j2 hb⟩
  | false =>
    obtain ⟨k1, k2⟩ := j3 hb
    have hg := badX_C a1 a2 a3 a4
    rw [hb] at j1 hg
    have hg2 : (f_PS_isPattern a1 a2 && f_PS_isPlace a3 && f_PS_isPlace a4) = true := by
      cases hz : (f_PS_isPattern a1 a2 && f_PS_isPlace a3 && f_PS_isPlace a4) with
      | true => rfl
      | false => rw [hz] at hg; cases hg
    rw [Bool.and_eq_true, Bool.and_eq_true] at hg2
    obtain ⟨o, k, p, r, e1, h1, -⟩ := badX_no hb
    have hp : vp_in a1 8 := by rw [e1]; exact vp_in_nI h1 (by decide)
    rw [← exec_CP] at k1 k2
    exact ⟨0, (f_PS_execute σ a1 a2 a3 a4).2, (f_PS_execute σ a1 a2 a3 a4).1.toInt64, hn_execute l E σ τ q a1 a2 a3 a4 hp hq_ok hg2.1.1 hg2.1.2 hg2.2, j1, fun _ => by rw [k2], k1⟩
theorem case_needs (hl0 : l.stackTraces = false) (h : Rest σ τ) (a1 a2 : Int32) : ∃ (kr : Int32) (σ1 : St) (q1 : Int64), HF l y_Law_needs method_6_code 5 [(0, 10, 13, 23)] rmH E [.ref 0, .int a1, .int a2, .ref 49] (σ, τ, q) kr (σ1, τ, q1) ∧ gI (f_M_needs τ a1 a2).2 0 30 = kr ∧ (kr = 0 → q1 = (f_M_needs τ a1 a2).1.toInt64) ∧ Rest σ1 (f_M_needs τ a1 a2).2 := by
  obtain ⟨j1, j2, j3⟩ := needs_J h a1 a2
  cases hb : badA a1 a2 with
  | true =>
    rw [hb] at j1
    exact ⟨1, σ, q, ht_needs l hl0 E σ τ q a1 a2 hb, j1, fun z => absurd z (by decide), j2⟩
  | false =>
    rw [hb] at j1
    obtain ⟨o, k, e1, h1, -⟩ := badA_no hb
    have hp : vp_in a1 8 := by rw [e1]; exact vp_in_nI h1 (by decide)
    exact ⟨0, σ, (f_PS_needs σ a1 a2).toInt64, hn_needs l E σ τ q a1 a2 hp (by rw [badA_C, hb]; rfl), j1, fun _ => by rw [← j3 hb, needs_CP], j2⟩
theorem case_word (hl0 : l.stackTraces = false) (h : Rest σ τ) (a1 : Int32) : ∃ (kr : Int32) (σ1 : St) (q1 : Int64), HF l y_Law_word method_7_code 4 [(0, 9, 12, 23)] rmH E [.ref 0, .int a1, .ref 49] (σ, τ, q) kr (σ1, τ, q1) ∧ gI (f_M_word τ a1).2 0 30 = kr ∧ (kr = 0 → q1 = (f_M_word τ a1).1.toInt64) ∧ Rest σ1 (f_M_word τ a1).2 := by
  obtain ⟨j1, j2, j3⟩ := word_J h a1
  cases hb : badI a1 7 with
  | true =>
    rw [hb] at j1
    exact ⟨1, σ, q, ht_word l hl0 E σ τ q a1 hb, j1, fun z => absurd z (by decide), j2⟩
  | false =>
    rw [hb] at j1
    obtain ⟨k, e1, h1⟩ := i32_ok (N := 7) (by decide) hb
    have hp : 0 ≤ a1.toInt ∧ a1.toInt ≤ 7 := by
      rw [e1, nI_toInt (by omega)]
      omega
    exact ⟨0, σ, (f_PS_word σ a1).toInt64, hn_word l E σ τ q a1 hp, j1, fun _ => by rw [← j3 hb, word_CP hb], j2⟩
theorem badP_is (k a : Int32) : badP k a = 1 ∨ badP k a = 2 ∨ (badP k a = 0 ∧ ¬ k < 0 ∧ k < 8 ∧ ¬ a < 0 ∧ a ≤ 2) := by
  unfold badP
  by_cases c1 : k < 0
  · rw [if_pos c1]; exact Or.inl rfl
  · rw [if_neg c1]
    by_cases c2 : k ≤ 7
    · rw [if_pos c2]
      by_cases c3 : a < 0
      · rw [if_pos c3]; exact Or.inr (Or.inl rfl)
      · rw [if_neg c3]
        by_cases c4 : a ≤ 2
        · rw [if_pos c4]; exact Or.inr (Or.inr ⟨rfl, c1, le7_lt c2, c3, c4⟩)
        · rw [if_neg c4]; exact Or.inr (Or.inl rfl)
    · rw [if_neg c2]; exact Or.inl rfl
theorem case_part (hl0 : l.stackTraces = false) (h : Rest σ τ) (a1 a2 : Int32) : ∃ (kr : Int32) (σ1 : St) (q1 : Int64), HF l y_Law_part method_8_code 5 [(0, 10, 13, 13), (0, 10, 17, 23)] rmH E [.ref 0, .int a1, .int a2, .ref 49] (σ, τ, q) kr (σ1, τ, q1) ∧ gI (f_M_part τ a1 a2).2 0 30 = kr ∧ (kr = 0 → q1 = (f_M_part τ a1 a2).1.toInt64) ∧ Rest σ1 (f_M_part τ a1 a2).2 := by
  obtain ⟨j1, j2, j3⟩ := part_J h a1 a2
  rcases badP_is a1 a2 with hb | hb | ⟨hb, c1, c2, c3, c4⟩
  · rw [hb] at j1
    exact ⟨1, σ, q, ht_part l hl0 E σ τ q a1 a2 hb, j1, fun z => absurd z (by decide), j2⟩
  · rw [hb] at j1
    exact ⟨2, σ, q, ht_part2 l hl0 E σ τ q a1 a2 hb, j1, fun z => absurd z (by decide), j2⟩
  · rw [hb] at j1
    exact ⟨0, σ, (f_PS_part σ a1 a2).toInt64, hn_part l E σ τ q a1 a2 c1 c2 c3 c4, j1, fun _ => by rw [← j3 hb]; rfl, j2⟩
end Q0
/-! the start -/
def σ0 : St := (fun k _ => if k = 6 then 1023 else 0, fun _ _ => 0, fun k _ => decide (k = 101))
def τ0 : St := (fun k _ => if k = 2 then 1023 else if k = 16 then 1023 else if k = 27 then 1023 else if k = 38 then 1023 else 0, fun _ _ => 0, fun k _ => decide (k = 103))
theorem Rest0 : Rest σ0 τ0 := by
  refine ⟨Ab.mk17 (fun _ => 0) (fun _ => (false, 0, 0)) (fun _ => true) 0 1023 0 false false false false 0 0 0 0 0 0 0, ?_, ?_, ?_, rfl, rfl, rfl⟩
  · exact ⟨fun _ => by show (0 : Nat) < 256; decide, fun _ _ => by show (0 : Nat) ≤ 32767; decide, by show (0 : Nat) < 8; decide, by show (1023 : Nat) < 65536; decide, by show (0 : Nat) < 64; decide, by show (0 : Nat) < 2048; decide, by show (0 : Nat) < 1048576; decide, by show (0 : Nat) < 1048576; decide, by show (0 : Nat) < 2048; decide, by show (0 : Nat) < 1048576; decide, by show (0 : Nat) < 1048576; decide, by show (0 : Nat) < 64; decide, rfl⟩
  · refine RC_mk (fun k _ => ?_) (fun i _ => ⟨rfl, rfl, ?_, ?_⟩) (fun i _ => rfl) rfl rfl rfl rfl rfl rfl rfl rfl
    · show (0 : Int32) &&& 255 = nI 0
      decide
    · show uN 0 = 0
      decide
    · show (0 : Nat) ≤ 32767
      decide
  · have e0 : (0 : Int32) = nI (topN (false, 0, 0)) := by decide +kernel
    refine RM_mk (fun k _ => rfl) (fun i _ => ⟨e0, ?_, ?_⟩) (fun i _ => rfl) rfl rfl rfl rfl rfl rfl rfl rfl (fun k _ => ⟨0, by decide, rfl⟩)
    · show uN 0 = 0
      decide
    · show (0 : Nat) ≤ 32767
      decide
theorem Inv0 (q : Int64) : Inv (σ0, τ0, q) := by
  refine ⟨?_, ?_, ?_, ?_, ?_, ?_, ?_, ⟨?_, ?_⟩, ⟨?_, ?_⟩, ?_, ?_⟩
  · show vp_in 0 8
    unfold vp_in; decide
  · show vp_in 0 8
    unfold vp_in; decide
  · show vp_in 0 8
    unfold vp_in; decide
  · show vp_in 0 8
    unfold vp_in; decide
  · show vp_in 0 8
    unfold vp_in; decide
  · show 0 ≤ (0 : Int32).toInt
    decide
  · show (0 : Int32).toInt ≤ 33000
    decide
  · show 0 ≤ (0 : Int32).toInt
    decide
  · show 0 ≤ (0 : Int32).toInt
    decide
  · show 0 ≤ (0 : Int32).toInt
    decide
  · show (0 : Int32).toInt ≤ 32767
    decide
  · show 0 ≤ (0 : Int32).toInt
    decide
  · show (0 : Int32).toInt ≤ 32767
    decide
