/-! part, needs, execute -/
def m_part (t : St) (k a : Int32) : Int32 :=
  if a = 0 then gI t 101 (jat (f_M_st t k)) else if a = 1 then f_M_high (gJ t 102 (jat (f_M_st t k))) else Int64.toInt32 (gJ t 102 (jat (f_M_st t k)))
theorem part_eq (τ : St) (k a : Int32) : f_M_part τ k a = (if gI (sI τ 0 30 (badP k a)) 0 30 ≤ 0 then (m_part (sI τ 0 30 (badP k a)) k a, sI τ 0 30 (badP k a)) else (0, sI τ 0 30 (badP k a))) := rfl
theorem badP_no {k a : Int32} (h : badP k a = 0) : ∃ i, k = nI i ∧ i < 8 := by
  unfold badP at h
  by_cases c : k < 0
  · rw [if_pos c] at h
    exact absurd h (by decide)
  · rw [if_neg c] at h
    by_cases c2 : k ≤ 7
    · obtain ⟨e1, e2⟩ := i32_nat c
      rw [i32_le (n := 7) (by decide)] at c2
      exact ⟨k.toInt.toNat, e1, by omega⟩
    · rw [if_neg c2] at h
      exact absurd h (by decide)
theorem badP_le (k a : Int32) : badP k a = 0 ∨ ¬ badP k a ≤ 0 := by
  unfold badP
  by_cases c : k < 0
  · rw [if_pos c]
    exact Or.inr (by decide)
  · rw [if_neg c]
    by_cases c2 : k ≤ 7
    · rw [if_pos c2]
      by_cases c3 : a < 0
      · rw [if_pos c3]
        exact Or.inr (by decide)
      · rw [if_neg c3]
        by_cases c4 : a ≤ 2
        · rw [if_pos c4]
          exact Or.inl rfl
        · rw [if_neg c4]
          exact Or.inr (by decide)
    · rw [if_neg c2]
      exact Or.inr (by decide)
theorem part_J {σ τ : St} (h : Rest σ τ) (k a : Int32) : gI (f_M_part τ k a).2 0 30 = badP k a ∧ Rest σ (f_M_part τ k a).2 ∧ (badP k a = 0 → c_part σ k a = (f_M_part τ k a).1) := by
  have h' := thr_Rest h (badP k a)
  have g := self_gI τ 0 30 (badP k a)
  have e2 : (f_M_part τ k a).2 = sI τ 0 30 (badP k a) := by
    rw [part_eq]
    by_cases c : gI (sI τ 0 30 (badP k a)) 0 30 ≤ 0
    · rw [if_pos c]
    · rw [if_neg c]
  rw [e2]
  refine ⟨g, h', fun hb => ?_⟩
  obtain ⟨i, rfl, hi⟩ := badP_no hb
  have g0 : gI (sI τ 0 30 (badP (nI i) a)) 0 30 ≤ 0 := by
    rw [g, hb]
    decide
  rw [part_eq, if_pos g0]
  show c_part σ (nI i) a = m_part (sI τ 0 30 (badP (nI i) a)) (nI i) a
  obtain ⟨b, b1, b2, b3, b4⟩ := h'
  generalize sI τ 0 30 (badP (nI i) a) = t at *
  obtain ⟨r1, r2, r3⟩ := b3.r _ (plN_lt b i)
  have rr := b2.r _ (plN_lt b i)
  have f : gJ σ 17 (16 + plN b i) = gJ t 102 (plN b i) := uN_inj (rr.2.2.1.trans r2.symm)
  unfold c_part m_part
  rw [place_C b2 b1 hi, st_M b3 b1 hi, jat_pl, top_C rr, r1, high_u, f]
/-! which code it is -/
def s0 : St := (fun _ _ => 0, fun _ _ => 0, fun _ _ => false)
theorem code_C {c : Nat} (hc : c < 256) : jshr (nI c) 3 &&& 7 = nI (c / 8 % 8) ∧ nI c &&& 7 = nI (c % 8) ∧ ((192 ≤ nI c) ↔ 192 ≤ c) ∧ nI c / 64 = nI (c / 64) ∧ jrem (nI c / 8) 8 = nI (c / 8 % 8) ∧ jrem (nI c) 8 = nI (c % 8) ∧ ((3 ≤ nI (c / 64)) ↔ 192 ≤ c) := by
  have e1 : jshr (nI c) 3 = nI (c / 2 ^ 3) := shrN (by omega) 3 (by decide)
  have e2 : nI (c / 2 ^ 3) &&& 7 = nI (c / 8 % 8) := low_C (k := 3) (by omega) (by decide)
  have e3 : nI c &&& 7 = nI (c % 8) := low_C (k := 3) (by omega) (by decide)
  have e4 : ((192 : Int32) ≤ nI c) ↔ 192 ≤ c := nI_leI (a := 192) (by decide) (by omega)
  have e5 : nI c / 64 = nI (c / 64) := pk_div (d := 64) (by omega) (by decide) (by decide)
  have e6 : jrem (nI c / 8) 8 = nI (c / 8 % 8) := rem_M (w := c) (by omega) 8 8 (by decide) (by decide) (by decide) (by decide)
  have e7 : jrem (nI c) 8 = nI (c % 8) := pk_rem (d := 8) (by omega) (by decide) (by decide)
  have e8 : ((3 : Int32) ≤ nI (c / 64)) ↔ 3 ≤ c / 64 := nI_leI (a := 3) (by decide) (by omega)
  refine ⟨by rw [e1, e2], e3, e4, e5, e6, e7, ?_⟩
  rw [e8]
  omega
def sortR (a v1 v2 : Int32) : Int32 := if a = 1 then (if v1 = 6 then (if v2 < 4 then 2 else f_PS_sortOf_b54 a v1 v2) else f_PS_sortOf_b54 a v1 v2) else f_PS_sortOf_b67 a v1 v2
def sortN (a v1 : Int32) : Int32 := bI (if tb0.getD (jat ((a * 8) + v1)) 0 = 0 then true else false)
def kindR (a v2 v3 : Int32) : Int32 := if a = 1 then (if v2 = 6 then (if v3 < 4 then 2 else f_M_kindOf_b187 a v2 v3) else f_M_kindOf_b187 a v2 v3) else f_M_kindOf_b187 a v2 v3
def kindM (a1 v2 : Int32) : Int32 := if jrem a1 2 = 0 then 0 else bI (if (if a1 = 1 then (if v2 = 1 then false else true) else if a1 = 3 then (if v2 = 0 then true else if v2 = 2 then true else if v2 = 3 then true else if v2 = 5 then true else if v2 = 7 then true else false) else if a1 = 5 then (if v2 = 0 then true else if v2 = 2 then true else if v2 = 3 then true else if v2 = 4 then true else if v2 = 6 then true else if v2 = 7 then true else false) else if v2 = 1 then false else true) = true then false else true)
theorem sort_eq (σ : St) (a c : Int32) : f_PS_sortOf σ a c = (if 192 ≤ c then sortR a (jshr c 3 &&& 7) (c &&& 7) else sortN a (jshr c 3 &&& 7)) := rfl
theorem kind_eq (a c : Int32) : f_M_kindOf a c = (if 3 ≤ c / 64 then kindR a (jrem (c / 8) 8) (jrem c 8) else kindM a (jrem (c / 8) 8)) := rfl
theorem sk_R : ∀ o, o < 8 → ∀ r, r < 8 → ∀ i, i < 8 → sortR (nI o) (nI r) (nI i) = kindR (nI o) (nI r) (nI i) := by
  intro o ho
  rcases (show o = 0 ∨ o = 1 ∨ o = 2 ∨ o = 3 ∨ o = 4 ∨ o = 5 ∨ o = 6 ∨ o = 7 by omega) with rfl | rfl | rfl | rfl | rfl | rfl | rfl | rfl <;> decide
theorem sk_M : ∀ o, o < 8 → ∀ r, r < 8 → sortN (nI o) (nI r) = kindM (nI o) (nI r) := by decide
theorem sort_kind {σ : St} {o c : Nat} (ho : o < 8) (hc : c < 256) : f_PS_sortOf σ (nI o) (nI c) = f_M_kindOf (nI o) (nI c) := by
  obtain ⟨e1, e2, e3, e4, e5, e6, e7⟩ := code_C hc
  rw [sort_eq, kind_eq, e1, e2, e4, e5, e6]
  simp only [e3, e7]
  by_cases q : 192 ≤ c
  · rw [if_pos q, if_pos q]
    exact sk_R o ho _ (by omega) _ (by omega)
  · rw [if_neg q, if_neg q]
    exact sk_M o ho _ (by omega)
theorem reg1_2 : ∀ i, i < 8 → sortR (nI 1) (nI 2) (nI i) ≠ 0 ∨ i = 0 := by decide
theorem reg1_3 : ∀ i, i < 8 → sortR (nI 1) (nI 3) (nI i) ≠ 0 := by decide
theorem reg1_4 : ∀ i, i < 8 → sortR (nI 1) (nI 4) (nI i) ≠ 0 ∨ i = 0 ∨ i = 1 ∨ i = 4 ∨ i = 5 := by decide
theorem reg1_5 : ∀ i, i < 8 → sortR (nI 1) (nI 5) (nI i) ≠ 0 ∨ i < 7 := by decide
theorem reg1_6 : ∀ i, i < 8 → sortR (nI 1) (nI 6) (nI i) ≠ 0 ∨ i = 4 ∨ i = 6 ∨ i = 7 := by decide
theorem reg1_7 : ∀ i, i < 8 → sortR (nI 1) (nI 7) (nI i) ≠ 0 ∨ i = 0 ∨ i = 2 ∨ i = 4 ∨ i = 5 := by decide
theorem reg_cases1 {r i : Nat} (hr : r < 8) (hi : i < 8) (h : sortR (nI 1) (nI r) (nI i) = 0) : ownV r i := by
  unfold ownV
  rcases (show r = 0 ∨ r = 1 ∨ r = 2 ∨ r = 3 ∨ r = 4 ∨ r = 5 ∨ r = 6 ∨ r = 7 by omega) with rfl | rfl | rfl | rfl | rfl | rfl | rfl | rfl
  · exact Or.inl rfl
  · exact Or.inr (Or.inl rfl)
  · rcases reg1_2 i hi with q | q
    · exact absurd h q
    · exact Or.inr (Or.inr (Or.inl ⟨rfl, q⟩))
  · exact absurd h (reg1_3 i hi)
  · rcases reg1_4 i hi with q | q
    · exact absurd h q
    · exact Or.inr (Or.inr (Or.inr (Or.inl ⟨rfl, q⟩)))
  · rcases reg1_5 i hi with q | q
    · exact absurd h q
    · exact Or.inr (Or.inr (Or.inr (Or.inr (Or.inl ⟨rfl, q⟩))))
  · rcases reg1_6 i hi with q | q
    · exact absurd h q
    · exact Or.inr (Or.inr (Or.inr (Or.inr (Or.inr (Or.inl ⟨rfl, q⟩)))))
  · rcases reg1_7 i hi with q | q
    · exact absurd h q
    · exact Or.inr (Or.inr (Or.inr (Or.inr (Or.inr (Or.inr ⟨rfl, q⟩)))))
theorem reg_cases2 : ∀ r, r < 8 → ∀ i, i < 8 → sortR (nI 2) (nI r) (nI i) ≠ 0 ∧ sortR (nI 7) (nI r) (nI i) ≠ 0 := by decide
theorem reg_cases3 : ∀ r, r < 8 → ∀ i, i < 8 → sortR (nI 3) (nI r) (nI i) ≠ 0 ∨ (r = 4 ∧ i < 4) := by decide
theorem reg_cases4 : ∀ r, r < 8 → ∀ i, i < 8 → sortR (nI 4) (nI r) (nI i) ≠ 0 ∨ (r = 0 ∨ r = 1 ∨ r = 4 ∨ r = 5 ∨ r = 6 ∨ r = 7) := by decide
theorem reg_cases5 : ∀ r, r < 8 → ∀ i, i < 8 → sortR (nI 5) (nI r) (nI i) ≠ 0 ∨ (r = 0 ∨ r = 2 ∨ r = 3) := by decide
theorem reg_cases6 : ∀ r, r < 8 → ∀ i, i < 8 → sortR (nI 6) (nI r) (nI i) ≠ 0 ∨ ((r = 0 ∨ r = 1 ∨ r = 4 ∨ r = 5 ∨ r = 6 ∨ r = 7) ∨ r = 3) := by decide
/-! needs -/
theorem needs_tbl : ∀ o, o < 8 → ∀ r, r < 8 → (if kindM (nI o) (nI r) = 0 then (if f_M_isWritten (nI o) (nI r) = true then -(f_M_bytesOf (f_M_operandOf (nI o) (nI r))) else f_M_bytesOf (f_M_operandOf (nI o) (nI r))) else 0) = tb0.getD (jat (nI o * 8 + nI r)) 0 := by decide
def badA (a b : Int32) : Bool := if a < 0 then true else if 7 < a then true else if b < 0 then true else if b ≤ 255 then false else true
theorem badA_C (a b : Int32) : f_PS_isPattern a b = !badA a b := by
  have e : (255 < b) ↔ ¬ b ≤ 255 := Int32.not_le.symm
  unfold f_PS_isPattern badA
  try dsimp only
  simp only [e]
  by_cases c1 : a < 0
  · rw [if_pos c1, if_pos c1]
    rfl
  · rw [if_neg c1, if_neg c1]
    by_cases c2 : 7 < a
    · rw [if_pos c2, if_pos c2]
      rfl
    · rw [if_neg c2, if_neg c2]
      by_cases c3 : b < 0
      · rw [if_pos c3, if_pos c3]
        rfl
      · rw [if_neg c3, if_neg c3]
        by_cases c4 : b ≤ 255
        · rw [if_neg (fun q => q c4), if_pos c4]
          rfl
        · rw [if_pos c4, if_neg c4]
          rfl
theorem badA_no {a b : Int32} (h : badA a b = false) : ∃ o c : Nat, a = nI o ∧ o < 8 ∧ b = nI c ∧ c < 256 := by
  unfold badA at h
  by_cases c1 : a < 0
  · rw [if_pos c1] at h
    cases h
  · rw [if_neg c1] at h
    by_cases c2 : 7 < a
    · rw [if_pos c2] at h
      cases h
    · rw [if_neg c2] at h
      by_cases c3 : b < 0
      · rw [if_pos c3] at h
        cases h
      · rw [if_neg c3] at h
        by_cases c4 : b ≤ 255
        · obtain ⟨e1, e2⟩ := i32_nat c1
          obtain ⟨e3, e4⟩ := i32_nat c3
          rw [i32_ltk' (n := 7) (by decide)] at c2
          rw [i32_le (n := 255) (by decide)] at c4
          exact ⟨_, _, e1, by omega, e3, by omega⟩
        · rw [if_neg c4] at h
          cases h
def c_needs (a b : Int32) : Int32 := if b < 192 then tb0.getD (jat (a * 8 + (jshr b 3 &&& 7))) 0 else 0
theorem needs_eq (τ : St) (a b : Int32) : f_M_needs τ a b = (if 0 < gI (sI τ 0 30 (bI (badA a b))) 0 30 then (0, sI τ 0 30 (bI (badA a b))) else if 192 ≤ b then (0, sI τ 0 30 (bI (badA a b))) else if f_M_kindOf a b = 0 then ((if f_M_isWritten a (jrem (b / 8) 8) = true then -(f_M_bytesOf (f_M_operandOf a (jrem (b / 8) 8))) else f_M_bytesOf (f_M_operandOf a (jrem (b / 8) 8))), sI τ 0 30 (bI (badA a b))) else (0, sI τ 0 30 (bI (badA a b)))) := rfl
theorem needs_J {σ τ : St} (h : Rest σ τ) (a b : Int32) : gI (f_M_needs τ a b).2 0 30 = bI (badA a b) ∧ Rest σ (f_M_needs τ a b).2 ∧ (badA a b = false → c_needs a b = (f_M_needs τ a b).1) := by
  have h' := thr_Rest h (bI (badA a b))
  have g := self_gI τ 0 30 (bI (badA a b))
  have e2 : (f_M_needs τ a b).2 = sI τ 0 30 (bI (badA a b)) := by
    rw [needs_eq]
    by_cases c1 : 0 < gI (sI τ 0 30 (bI (badA a b))) 0 30
    · rw [if_pos c1]
    · rw [if_neg c1]
      by_cases c2 : 192 ≤ b
      · rw [if_pos c2]
      · rw [if_neg c2]
        by_cases c3 : f_M_kindOf a b = 0
        · rw [if_pos c3]
        · rw [if_neg c3]
  rw [e2]
  refine ⟨g, h', fun hb => ?_⟩
  have g0 : ¬ 0 < gI (sI τ 0 30 (bI (badA a b))) 0 30 := by
    rw [g, hb]
    decide
  rw [needs_eq, if_neg g0]
  obtain ⟨o, c, rfl, ho, rfl, hc⟩ := badA_no hb
  obtain ⟨e1, e2, e3, e4, e5, e6, e7⟩ := code_C hc
  have e8 : (nI c < 192) ↔ ¬ 192 ≤ c := by
    rw [← e3]
    exact Int32.not_le.symm
  unfold c_needs
  rw [e1, e5]
  simp only [e3, e8]
  by_cases q : 192 ≤ c
  · rw [if_neg (fun z => z q), if_pos q]
  · rw [if_pos q, if_neg q, kind_eq, e4, e5]
    have n3 : ¬ (3 : Int32) ≤ nI (c / 64) := fun z => q (e7.mp z)
    rw [if_neg n3, ← needs_tbl o ho (c / 8 % 8) (by omega)]
    by_cases c3 : kindM (nI o) (nI (c / 8 % 8)) = 0
    · rw [if_pos c3, if_pos c3]
    · rw [if_neg c3, if_neg c3]
