/-! the class's operation -/
theorem kind_N {σ : St} {a P F : Nat} {m : Bool} (h : RealIs σ a m P F) : f_Real_kind σ a = nI (kindN P F) := by
  obtain ⟨h1, h2, h3, h4⟩ := h
  have bF := uN_lt (gJ σ 17 a)
  have c1 : (nI P = 32767) ↔ P = 32767 := nI_eq (b := 32767) (by omega) (by decide)
  have c2 : (nI P = 0) ↔ P = 0 := nI_eq0 (by omega)
  have c3 : (jlshl (gJ σ 17 a) 1 = 0) ↔ F % 9223372036854775808 = 0 := by
    rw [uN_eq0, dbl1, h3]
    omega
  have c4 : (gJ σ 17 a = 0) ↔ F = 0 := by rw [uN_eq0, h3]
  have c5 : (0 ≤ gJ σ 17 a) ↔ F < 9223372036854775808 := by rw [uN_nn, h3]
  unfold f_Real_kind kindN
  simp only [h2, c1, c2, c3, c4, c5]
  by_cases d1 : P = 32767 <;> by_cases d2 : F % 9223372036854775808 = 0 <;> by_cases d3 : P = 0 <;> by_cases d4 : F = 0 <;> by_cases d5 : F < 9223372036854775808 <;> simp [d1, d2, d3, d4, d5] <;> first | rfl | omega
theorem inf_N {σ : St} {a P F : Nat} {m : Bool} (h : RealIs σ a m P F) : f_Real_isInfinite σ a = isInf P F := by
  obtain ⟨h1, h2, h3, h4⟩ := h
  have bF := uN_lt (gJ σ 17 a)
  have c1 : (nI P = 32767) ↔ P = 32767 := nI_eq (b := 32767) (by omega) (by decide)
  have c3 : (jlshl (gJ σ 17 a) 1 = 0) ↔ F % 9223372036854775808 = 0 := by
    rw [uN_eq0, dbl1, h3]
    omega
  unfold f_Real_isInfinite isInf
  simp only [h2, c1, c3]
  by_cases d1 : P = 32767 <;> by_cases d2 : F % 9223372036854775808 = 0 <;> simp [d1, d2]
theorem nil_N {σ : St} {a P F : Nat} {m : Bool} (h : RealIs σ a m P F) : f_Real_isNothing σ a = isNil P F := by
  obtain ⟨h1, h2, h3, h4⟩ := h
  have c1 : (nI P = 32767) ↔ P = 32767 := nI_eq (b := 32767) (by omega) (by decide)
  have c4 : (gJ σ 17 a = 0) ↔ F = 0 := by rw [uN_eq0, h3]
  unfold f_Real_isNothing isNil
  simp only [h2, c1, c4]
  by_cases d1 : P = 32767 <;> by_cases d2 : F = 0 <;> simp [d1, d2]
theorem unn_N {σ : St} {a P F : Nat} {m : Bool} (h : RealIs σ a m P F) : f_Real_isUnnormalSomething σ a = isUnn P F := by
  obtain ⟨h1, h2, h3, h4⟩ := h
  have bF := uN_lt (gJ σ 17 a)
  have c1 : (gJ σ 17 a ≤ 0) ↔ (F = 0 ∨ 9223372036854775808 ≤ F) := by rw [uN_np, h3]
  have c2 : (nI P ≤ 0) ↔ P = 0 := by
    have := nI_leI (a := P) (b := 0) (by omega) (by decide)
    rw [show (0 : Int32) = nI 0 from rfl, this]
    omega
  have c3 : (32767 ≤ nI P) ↔ 32767 ≤ P := nI_leI (a := 32767) (b := P) (by decide) (by omega)
  unfold f_Real_isUnnormalSomething isUnn
  simp only [h2, c1, c2, c3]
  by_cases d1 : P = 0 <;> by_cases d2 : F = 0 <;> by_cases d3 : 9223372036854775808 ≤ F <;> by_cases d4 : 32767 ≤ P <;> simp [d1, d2, d3, d4] <;> omega
theorem before_N {σ : St} {a b Pa Fa Pb Fb : Nat} {ma mb : Bool} (ha : RealIs σ a ma Pa Fa) (hb : RealIs σ b mb Pb Fb) : f_Real_goesBefore σ a b = beforeS (ma, Pa, Fa) (mb, Pb, Fb) := by
  obtain ⟨h1, h2, h3, h4⟩ := ha
  obtain ⟨g1, g2, g3, g4⟩ := hb
  have c1 : (gJ σ 17 a = gJ σ 17 b) ↔ Fa = Fb := by rw [uN_eq, h3, g3]
  have c2 : ((gJ σ 17 a ^^^ (-9223372036854775808)) ≤ (gJ σ 17 b ^^^ (-9223372036854775808))) ↔ Fa ≤ Fb := by rw [uN_le, h3, g3]
  unfold f_Real_goesBefore beforeS
  simp only [c1, c2, h1, g1]
  by_cases d1 : Fa = Fb
  · cases ma <;> cases mb <;> simp [d1]
  · by_cases d2 : Fa ≤ Fb <;> simp [d1, d2] <;> omega
theorem nan_N {σ : St} {a P F : Nat} {m : Bool} (h : RealIs σ a m P F) : (f_Real_kind σ a = 5) ↔ isNan P F = true := by
  rw [kind_N h, show (5 : Int32) = nI 5 from rfl, nI_eq (by unfold kindN; (repeat' split) <;> decide) (by decide)]
  unfold kindN isNan
  (repeat' split) <;> simp_all
theorem den_N {σ : St} {a P F : Nat} {m : Bool} (h : RealIs σ a m P F) : (f_Real_kind σ a = 1) ↔ isDen P F = true := by
  rw [kind_N h, show (1 : Int32) = nI 1 from rfl, nI_eq (by unfold kindN; (repeat' split) <;> decide) (by decide)]
  unfold kindN isDen
  (repeat' split) <;> simp_all
theorem one_N {σ : St} {w : Nat} (hs : gI σ 6 3 = nI w) (hw : w < 65536) : f_Ctl_knowsOneInfinite σ = one2 w := by
  unfold f_Ctl_knowsOneInfinite one2
  have c : (nI w &&& 4096 = 0) ↔ ¬ w / 4096 % 2 = 1 := nI_bit hw (i := 12) (by decide)
  simp only [hs, c]
  by_cases d : w / 4096 % 2 = 1
  · simp [d]
  · simp [d]
    omega
theorem cannotBe_N {σ : St} {w K a b Pa Fa Pb Fb : Nat} {ma mb : Bool} (hs : gI σ 6 3 = nI w) (hw : w < 65536) (hK : K ≤ 4) (ha : RealIs σ a ma Pa Fa) (hb : RealIs σ b mb Pb Fb) : f_Oper_cannotBe σ (nI K) a b = wrongS K w (ma, Pa, Fa) (mb, Pb, Fb) := by
  have k5 : K = 0 ∨ K = 1 ∨ K = 2 ∨ K = 3 ∨ K = 4 := by omega
  unfold f_Oper_cannotBe f_Oper_cannotBe_b130 f_Oper_cannotBe_b169 f_Oper_cannotBe_b196 wrongS
  simp only [inf_N ha, inf_N hb, nil_N ha, nil_N hb, unn_N ha, unn_N hb, one_N hs hw, ha.1, hb.1]
  generalize isInf Pa Fa = ia
  generalize isInf Pb Fb = ib
  generalize isNil Pa Fa = na
  generalize isNil Pb Fb = nb
  generalize isUnn Pa Fa = ua
  generalize isUnn Pb Fb = ub
  generalize one2 w = o2
  rcases k5 with rfl | rfl | rfl | rfl | rfl
  · have c0 : nI 0 = (0 : Int32) := rfl
    simp only [c0, if_true]
    cases ia <;> cases ib <;> cases o2 <;> cases ma <;> cases mb <;> rfl
  · have c0 : ¬ nI 1 = (0 : Int32) := by decide
    have c1 : nI 1 = (1 : Int32) := rfl
    simp only [c0, if_false]
    simp only [c1, if_true]
    cases ia <;> cases ib <;> cases o2 <;> cases ma <;> cases mb <;> rfl
  · have c0 : ¬ nI 2 = (0 : Int32) := by decide
    have c1 : ¬ nI 2 = (1 : Int32) := by decide
    have c2 : nI 2 = (2 : Int32) := rfl
    simp only [c0, c1, if_false]
    simp only [c2, if_true]
    cases ia <;> cases ib <;> cases na <;> cases nb <;> rfl
  · have c0 : ¬ nI 3 = (0 : Int32) := by decide
    have c1 : ¬ nI 3 = (1 : Int32) := by decide
    have c2 : ¬ nI 3 = (2 : Int32) := by decide
    have c3 : nI 3 = (3 : Int32) := rfl
    simp only [c0, c1, c2, if_false]
    simp only [c3, if_true]
    cases ia <;> cases ib <;> cases na <;> cases nb <;> cases ub <;> rfl
  · have c0 : ¬ nI 4 = (0 : Int32) := by decide
    have c1 : ¬ nI 4 = (1 : Int32) := by decide
    have c2 : ¬ nI 4 = (2 : Int32) := by decide
    have c3 : ¬ nI 4 = (3 : Int32) := by decide
    simp only [c0, c1, c2, c3, if_false]
    cases ia <;> cases na <;> cases ua <;> cases o2 <;> cases ma <;> rfl
