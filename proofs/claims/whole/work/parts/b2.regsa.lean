/-! codes with registers -/
theorem comp_J {K : K6} {a : Ab} {σ τ : St} {r k n : Nat} {B : Re} (ha : AOK K a) (hc : RC a σ) (hm : RM a τ) (ov : gZ τ 9 30 = false) (ne : endsN a.w a.now = false) (hr : (r = 2 ∧ n = 0) ∨ (r = 3 ∧ (n = 1 ∨ n = 2))) (hA : RealIs σ 12 (regN a 0).1 (regN a 0).2.1 (regN a 0).2.2) (hB : RealIs σ 13 B.1 B.2.1 B.2.2) (xB : XIs τ B) (g11 : gI τ 11 30 = nI r) : RkOut K τ (f_PS_combine σ (nI r) (nI k) (nI n)) (f_M_reckon τ (nI k)) (n - 1) := by
  have cj := compare_J (tst := false) ha hc hm ov ne (show n < 8 by omega) hA hB (fun _ => xB) (fun q => by cases q)
  obtain ⟨b, b1, b2, b3, b4⟩ := cj
  have e1 : f_PS_combine σ (nI r) (nI k) (nI n) = f_PS_compare σ (nI n) := by
    unfold f_PS_combine f_PS_combine_b21
    try dsimp only
    rw [ends_A hc ha, ne, if_neg Bool.false_ne_true]
    rcases hr with ⟨rfl, -⟩ | ⟨rfl, -⟩
    · rw [if_pos (show nI 2 = 2 by decide)]
    · rw [if_neg (show ¬ nI 3 = 2 by decide), if_pos (show nI 3 = 3 by decide)]
  have e2 : f_M_reckon τ (nI k) = f_M_reckon_b16 τ := by
    unfold f_M_reckon
    try dsimp only
    rw [g11]
    rcases hr with ⟨rfl, -⟩ | ⟨rfl, -⟩
    · rw [if_pos (show nI 2 = 2 by decide)]
    · rw [if_neg (show ¬ nI 3 = 2 by decide), if_pos (show nI 3 = 3 by decide)]
  rw [e1, e2]
  unfold f_M_reckon_b16
  try dsimp only
  generalize f_M_compare τ false = s3 at *
  generalize f_PS_compare σ (nI n) = u at *
  have g3 : gI s3 11 30 = nI r := b3.2.1.trans g11
  rw [g3]
  rcases hr with ⟨rfl, rfl⟩ | ⟨rfl, hn⟩
  · rw [if_neg (show ¬ nI 2 = 3 by decide)]
    exact ⟨b, b1, b2, b3, b4⟩
  · rw [if_pos (show nI 3 = 3 by decide)]
    rcases b4 with ⟨c1, c2⟩ | ⟨c1, c2⟩
    · rw [c1, if_pos (rfl : true = true)]
      exact ⟨b, b1, b2, b3, Or.inl ⟨c1, c2⟩⟩
    · rw [c1, if_neg Bool.false_ne_true]
      obtain ⟨p1, p2, p3, p4⟩ := pop_M b2 b1
      refine ⟨popA b, AOK_pop b1, p1, same3_trans b3 ⟨p2 10 30 (by decide), p2 11 30 (by decide), p2 12 30 (by decide)⟩, Or.inr ⟨by rw [p4 9 30 (by decide)]; exact c1, ?_⟩⟩
      rcases hn with rfl | rfl
      · exact c2
      · exact c2
def Jx (K : K6) (σ τ : St) : Prop := ∃ b, AOK K b ∧ RC b σ ∧ RM b τ
theorem reckon_J {K : K6} {a : Ab} {σ τ : St} {r k n x : Nat} {B : Re} (ha : AOK K a) (hc : RC a σ) (hm : RM a τ) (ov : gZ τ 9 30 = false) (ne : endsN a.w a.now = false) (hr : ((r = 0 ∨ r = 1 ∨ r = 4 ∨ r = 5 ∨ r = 6 ∨ r = 7) ∧ x = n) ∨ (r = 2 ∧ n = 0 ∧ x = 0) ∨ (r = 3 ∧ (n = 1 ∨ n = 2) ∧ x = n - 1)) (hn : n < 8) (hk : k < 8) (hA : RealIs σ 12 (regN a 0).1 (regN a 0).2.1 (regN a 0).2.2) (hB : RealIs σ 13 B.1 B.2.1 B.2.2) (xB : XIs τ B) (g11 : gI τ 11 30 = nI r) : RkOut K τ (f_PS_combine σ (nI r) (nI k) (nI n)) (f_M_reckon τ (nI k)) x := by
  rcases hr with ⟨h1, rfl⟩ | ⟨rfl, rfl, rfl⟩ | ⟨rfl, h1, rfl⟩
  · exact arith_J ha hc hm ov ne h1 hk hn hA hB xB g11
  · exact comp_J ha hc hm ov ne (Or.inl ⟨rfl, rfl⟩) hA hB xB g11
  · exact comp_J ha hc hm ov ne (Or.inr ⟨rfl, h1⟩) hA hB xB g11
def OV (a : Ab) (τ : St) : Prop := gZ τ 9 30 = endsN a.w a.now
theorem OV_want {K : K6} {a : Ab} {τ : St} (h : RM a τ) (ha : AOK K a) (ov : OV a τ) {k : Nat} (hk : k < 8) : OV (nowA a (lackN a k)) (f_M_want τ (nI k)) := by
  unfold OV
  rw [(want_O h ha hk).2.1, ov]
  show _ = endsN a.w (a.now ||| lackN a k)
  rw [endsN_or]
theorem same3_want {K : K6} {a : Ab} {τ : St} (h : RM a τ) (ha : AOK K a) {k : Nat} (hk : k < 8) : same3 τ (f_M_want τ (nI k)) := by
  have f := (want_O h ha hk).2.2
  exact ⟨(f 10 30 (by decide)).1, (f 11 30 (by decide)).1, (f 12 30 (by decide)).1⟩
theorem need_RC {K : K6} {a : Ab} {σ : St} (h : RC a σ) (ha : AOK K a) {k x : Nat} (hk : k < 8) (hx : 12 ≤ x ∧ x ≤ 15) : RC (nowA a (lackN a k)) (f_PS_need σ (nI k) x) := by
  obtain ⟨n1, n2, n3⟩ := need_C h ha hk hx
  exact RC_P h (frP_R n1 hx) n2
/-- two numbers are wanted -/
theorem two_J {K : K6} {a : Ab} {σ τ : St} {k : Nat} (ha : AOK K a) (hc : RC a σ) (hm : RM a τ) (ov : OV a τ) (hk : k < 8) : ∃ b, AOK K b ∧ RC b (f_PS_need (f_PS_need σ 0 12) (nI k) 13) ∧ RM b (f_M_want (f_M_want τ 0) (nI k)) ∧ OV b (f_M_want (f_M_want τ 0) (nI k)) ∧ same3 τ (f_M_want (f_M_want τ 0) (nI k)) ∧ RealIs (f_PS_need (f_PS_need σ 0 12) (nI k) 13) 12 (regN b 0).1 (regN b 0).2.1 (regN b 0).2.2 ∧ RealIs (f_PS_need (f_PS_need σ 0 12) (nI k) 13) 13 (regN b k).1 (regN b k).2.1 (regN b k).2.2 := by
  have a1 : AOK K (nowA a (lackN a 0)) := AOK_now ha (lackN_lt a 0)
  have e1 : f_PS_need σ 0 12 = f_PS_need σ (nI 0) 12 := rfl
  have e2 : f_M_want τ 0 = f_M_want τ (nI 0) := rfl
  rw [e1, e2]
  obtain ⟨-, -, n3⟩ := need_C hc ha (k := 0) (x := 12) (by decide) (by decide)
  have r1 := need_RC hc ha (k := 0) (x := 12) (by decide) (by decide)
  have w1 := (want_O hm ha (k := 0) (by decide)).1
  have v1 := OV_want hm ha ov (k := 0) (by decide)
  have s1 := same3_want hm ha (k := 0) (by decide)
  generalize f_PS_need σ (nI 0) 12 = σ1 at *
  generalize f_M_want τ (nI 0) = τ1 at *
  obtain ⟨m1, -, m3⟩ := need_C r1 a1 (x := 13) hk (by decide)
  have r2 := need_RC r1 a1 (x := 13) hk (by decide)
  have w2 := (want_O w1 a1 hk).1
  have v2 := OV_want w1 a1 v1 hk
  have s2 := same3_want w1 a1 hk
  have g0 : regN (nowA (nowA a (lackN a 0)) (lackN (nowA a (lackN a 0)) k)) 0 = regN a 0 := ((regN_now _ _ _).1).trans (regN_now _ _ _).1
  have g1 : regN (nowA (nowA a (lackN a 0)) (lackN (nowA a (lackN a 0)) k)) k = regN (nowA a (lackN a 0)) k := (regN_now _ _ _).1
  have n4 := RealIs_frR n3 m1 (show 12 ≠ 13 by decide)
  rw [← g0] at n4
  rw [← g1] at m3
  exact ⟨_, AOK_now a1 (lackN_lt _ k), r2, w2, v2, same3_trans s1 s2, n4, m3⟩
