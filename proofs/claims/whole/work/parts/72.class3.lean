/-! the class's numbers: found, and made -/
theorem against_cases (σ : St) (o p : Nat) :
    (f_Size_against σ o p = 0 ∧ (gI σ 11 p).toInt = (gI σ 11 o).toInt ∧ uN (gJ σ 8 p) = uN (gJ σ 8 o)) ∨
    (f_Size_against σ o p = -1 ∧ ((gI σ 11 o).toInt < (gI σ 11 p).toInt ∨ ((gI σ 11 o).toInt = (gI σ 11 p).toInt ∧ uN (gJ σ 8 o) < uN (gJ σ 8 p)))) ∨
    (f_Size_against σ o p = 1 ∧ ((gI σ 11 p).toInt < (gI σ 11 o).toInt ∨ ((gI σ 11 p).toInt = (gI σ 11 o).toInt ∧ uN (gJ σ 8 p) < uN (gJ σ 8 o)))) := by
  unfold f_Size_against
  simp only [isBelow_eq]
  by_cases c1 : gI σ 11 o = gI σ 11 p
  · have e1 : (gI σ 11 o).toInt = (gI σ 11 p).toInt := by rw [c1]
    rw [if_pos c1]
    by_cases c2 : gJ σ 8 o = gJ σ 8 p
    · rw [if_pos c2]
      exact Or.inl ⟨rfl, e1.symm, by rw [c2]⟩
    · rw [if_neg c2]
      have ne : uN (gJ σ 8 o) ≠ uN (gJ σ 8 p) := fun q => c2 (uN_inj q)
      by_cases c3 : uN (gJ σ 8 o) < uN (gJ σ 8 p)
      · right
        left
        exact ⟨by simp [c3], Or.inr ⟨e1, c3⟩⟩
      · right
        right
        exact ⟨by simp [c3], Or.inr ⟨e1.symm, by omega⟩⟩
  · rw [if_neg c1]
    have ne : (gI σ 11 o).toInt ≠ (gI σ 11 p).toInt := fun q => c1 (Int32.toInt_inj.mp q)
    by_cases c2 : gI σ 11 p ≤ gI σ 11 o
    · rw [if_pos c2]
      have := Int32.le_iff_toInt_le.mp c2
      exact Or.inr (Or.inr ⟨rfl, Or.inl (by omega)⟩)
    · rw [if_neg c2]
      have : ¬ (gI σ 11 p).toInt ≤ (gI σ 11 o).toInt := fun q => c2 (Int32.le_iff_toInt_le.mpr q)
      exact Or.inr (Or.inl ⟨rfl, Or.inl (by omega)⟩)
theorem swap_get (σ : St) (o p : Nat) (h : o ≠ p) : gJ (f_Size_swap σ o p) 8 o = gJ σ 8 p ∧ gJ (f_Size_swap σ o p) 8 p = gJ σ 8 o ∧ gI (f_Size_swap σ o p) 11 o = gI σ 11 p ∧ gI (f_Size_swap σ o p) 11 p = gI σ 11 o ∧ gJ (f_Size_swap σ o p) 9 o = gJ σ 9 o ∧ gJ (f_Size_swap σ o p) 9 p = gJ σ 9 p ∧ gZ (f_Size_swap σ o p) 10 o = gZ σ 10 o ∧ gZ (f_Size_swap σ o p) 10 p = gZ σ 10 p ∧ frS σ (f_Size_swap σ o p) := by
  have h2 : ¬ p = o := fun q => h q.symm
  refine ⟨?_, ?_, ?_, ?_, ?_, ?_, rfl, rfl, ?_, ?_, ?_⟩
  · simp [f_Size_swap, gJ_sI, gJ_sJ]
  · simp [f_Size_swap, gJ_sI, gJ_sJ, h2]
  · simp [f_Size_swap, gI_sI, gI_sJ]
  · simp [f_Size_swap, gI_sI, gI_sJ, h2, h]
  · simp [f_Size_swap, gJ_sI, gJ_sJ]
  · simp [f_Size_swap, gJ_sI, gJ_sJ]
  · intro k x a
    simp [f_Size_swap, gI_sI, gI_sJ, a]
  · intro k x a b c d
    simp [f_Size_swap, gJ_sI, gJ_sJ, a]
  · intro k x a b
    rfl
def sumN (ma mb : Bool) (A B : Nat) : Nat := if ma = mb then A + B else if B ≤ A then A - B else B - A
def sumG (w : Nat) (ma mb : Bool) (A B : Nat) : Bool := if ma = mb then ma else if A = B then decide (wayOf w = 1) else if B < A then ma else mb
theorem addWithSigns_spec (σ : St) (ma mb : Bool) (Fa Fb w : Nat) (ea eb lo : Int) (x y : Nat) (hs : gI σ 6 3 = nI w) (hw : w < 65536) (ha : Loaded σ 4 Fa ea) (hb : Loaded σ 5 Fb eb) (hea : -16445 ≤ ea ∧ ea ≤ 16321) (heb : -16445 ≤ eb ∧ eb ≤ 16321) (hx : ea = lo + x) (hy : eb = lo + y) (hlo : lo = ea ∨ lo = eb) :
    ∃ σ1 : St, f_Oper_addWithSigns σ ma mb = (sumG w ma mb (Fa * 2 ^ x) (Fb * 2 ^ y), σ1) ∧ frS σ σ1 ∧ SizeIs σ1 4 (sumN ma mb (Fa * 2 ^ x) (Fb * 2 ^ y)) false lo := by
  have n45 : (4 : Nat) ≠ 5 := by decide
  have w1 : nI (wayOf w) = 1 ↔ wayOf w = 1 := nI_eq (b := 1) (by have := wayOf_lt w; omega) (by decide)
  rcases against_cases σ 4 5 with ⟨v, c1, c2⟩ | ⟨v, c⟩ | ⟨v, c⟩
  · -- the same size
    have E := same_val ha hb hea heb lo x y hx hy hlo c1 c2
    have ab : Above σ 4 5 := Or.inr ⟨c1, by omega⟩
    have z0 : (0 : Int32) ≤ 0 := by decide
    by_cases hm : ma = mb
    · obtain ⟨f1, s1⟩ := add_exact n45 ha hb hea heb ab lo x y hx hy hlo
      refine ⟨f_Size_add σ 4 5, ?_, f1, ?_⟩
      · unfold f_Oper_addWithSigns sumG
        simp only [v, z0, if_true, hm]
      · unfold sumN
        rw [if_pos hm]
        exact s1
    · obtain ⟨f1, s1⟩ := sub_exact n45 ha hb hea heb ab lo x y hx hy hlo
      refine ⟨f_Size_subtract σ 4 5, ?_, f1, ?_⟩
      · have rd := rounding_eq (σ := f_Size_subtract σ 4 5) (by rw [f1.1 6 3 (by decide)]; exact hs) hw
        unfold f_Oper_addWithSigns sumG
        simp only [v, z0, if_true, hm, if_false, rd, w1, E]
        by_cases q : wayOf w = 1 <;> simp [q]
      · unfold sumN
        rw [if_neg hm, if_pos (by omega)]
        exact s1
  · -- the second is greater
    have E := less_val hb ha heb hea lo y x hy hx (by rcases hlo with q | q; exact Or.inr q; exact Or.inl q) c
    obtain ⟨g1, g2, g3, g4, g5, g6, g7, g8, fs⟩ := swap_get σ 4 5 n45
    have hb' : Loaded (f_Size_swap σ 4 5) 4 Fb eb := by
      unfold Loaded
      rw [g1, g3, g5, g7]
      exact ⟨ha.1, ha.2.1, hb.2.2⟩
    have ha' : Loaded (f_Size_swap σ 4 5) 5 Fa ea := by
      unfold Loaded
      rw [g2, g4, g6, g8]
      exact ⟨hb.1, hb.2.1, ha.2.2⟩
    have ab : Above (f_Size_swap σ 4 5) 4 5 := by
      unfold Above
      rw [g1, g2, g3, g4]
      rcases c with c | c
      · exact Or.inl c
      · exact Or.inr ⟨c.1, by omega⟩
    have hlo' : lo = eb ∨ lo = ea := by rcases hlo with q | q; exact Or.inr q; exact Or.inl q
    have z0 : ¬ (0 : Int32) ≤ -1 := by decide
    have z1 : ¬ (-1 : Int32) = 0 := by decide
    have z2 : (-1 : Int32) ≤ 0 := by decide
    by_cases hm : ma = mb
    · obtain ⟨f1, s1⟩ := add_exact n45 hb' ha' heb hea ab lo y x hy hx hlo'
      refine ⟨f_Size_add (f_Size_swap σ 4 5) 4 5, ?_, frS_trans fs f1, ?_⟩
      · unfold f_Oper_addWithSigns sumG
        simp only [v, z0, if_true, if_false, hm]
      · unfold sumN
        rw [if_pos hm, Nat.add_comm]
        exact s1
    · obtain ⟨f1, s1⟩ := sub_exact n45 hb' ha' heb hea ab lo y x hy hx hlo'
      refine ⟨f_Size_subtract (f_Size_swap σ 4 5) 4 5, ?_, frS_trans fs f1, ?_⟩
      · have e1 : ¬ Fa * 2 ^ x = Fb * 2 ^ y := by omega
        have e2 : ¬ Fb * 2 ^ y < Fa * 2 ^ x := by omega
        unfold f_Oper_addWithSigns sumG
        simp only [v, z0, z1, z2, if_true, if_false, hm, e1, e2]
      · unfold sumN
        rw [if_neg hm, if_neg (by omega)]
        exact s1
  · -- the first is greater
    have E := less_val ha hb hea heb lo x y hx hy hlo c
    have ab : Above σ 4 5 := by
      rcases c with c | c
      · exact Or.inl c
      · exact Or.inr ⟨c.1, by omega⟩
    have z0 : (0 : Int32) ≤ 1 := by decide
    have z1 : ¬ (1 : Int32) = 0 := by decide
    have z2 : ¬ (1 : Int32) ≤ 0 := by decide
    by_cases hm : ma = mb
    · obtain ⟨f1, s1⟩ := add_exact n45 ha hb hea heb ab lo x y hx hy hlo
      refine ⟨f_Size_add σ 4 5, ?_, f1, ?_⟩
      · unfold f_Oper_addWithSigns sumG
        simp only [v, z0, if_true, hm]
      · unfold sumN
        rw [if_pos hm]
        exact s1
    · obtain ⟨f1, s1⟩ := sub_exact n45 ha hb hea heb ab lo x y hx hy hlo
      refine ⟨f_Size_subtract σ 4 5, ?_, f1, ?_⟩
      · have e1 : ¬ Fa * 2 ^ x = Fb * 2 ^ y := by omega
        unfold f_Oper_addWithSigns sumG
        simp only [v, z0, z1, z2, if_true, if_false, hm, e1, E]
      · unfold sumN
        rw [if_neg hm, if_pos (by omega)]
        exact s1
/-! making -/
def SPz (w n : Nat) (m : Bool) (N : Nat) (s : Bool) (e : Int) : Nat × Int × Nat := if N = 0 then (0, 0, 0) else SP w n m (e + N.log2) (RQ N s e)
theorem Lg_log2 {N t : Nat} (h : Lg N t) : N.log2 = t := by
  have hN : 0 < N := by
    have := h.1
    have := pow_pos2 t
    omega
  have h2 : Lg N N.log2 := ⟨(Nat.le_log2 (by omega)).mp (Nat.le_refl _), (Nat.log2_lt (by omega)).mp (Nat.lt_succ_self _)⟩
  exact Lg_uniq h2 h
theorem SP_rng0 {w n : Nat} {m : Bool} {k : Int} {f : Int → Nat × Bool × Bool} (hk : -40000 ≤ k ∧ k ≤ 40000) : (SP w n m k f).1 < 64 ∧ (SP w n m k f).1 % 8 = 0 ∧ 0 ≤ (SP w n m k f).2.1 ∧ (SP w n m k f).2.1 ≤ 32767 := by
  unfold SP
  (repeat' split) <;> simp <;> omega
theorem class_make (σ : St) (mk o : Nat) (m : Bool) (n a4 w N : Nat) (s : Bool) (e : Int) (hs : gI σ 6 3 = nI w) (hw : w < 65536) (hnd : n = 24 ∨ n = 53 ∨ n = 64) (hS : SizeIs σ o N s e) :
    ∃ (σ1 : St) (pw : Int32) (F : Int64), frS σ σ1 ∧ f_Maker_make σ mk o m (nI n) a4 = f_Real_set (f_Ctl_tell σ1 (nI (SPz w n m N s e).1)) a4 m pw F ∧ pw.toInt = (SPz w n m N s e).2.1 ∧ uN F = (SPz w n m N s e).2.2 := by
  rcases hS with ⟨h1, h2, h3⟩ | ⟨h0, h1, h2, t, h3, h4, h5⟩
  · refine ⟨σ, 0, 0, frS_refl σ, ?_, ?_, ?_⟩
    · unfold SPz
      rw [if_pos h1]
      have z : nI (0, (0 : Int), 0).1 = (0 : Int32) := rfl
      rw [z, tell_0]
      unfold f_Maker_make f_Size_isNothing
      simp only [h2, h3, if_true]
      rfl
    · unfold SPz
      rw [if_pos h1]
      rfl
    · unfold SPz
      rw [if_pos h1]
      rfl
  · obtain ⟨K, c, pw, F, c1, c2, c3⟩ := make_spec σ mk o m n a4 w hs hw hnd h1 (by omega) _ rfl
    have eq : SP w n m ((gI σ 11 o).toInt + 127) (RQ (uN (gJ σ 8 o) * 2 ^ 64 + uN (gJ σ 9 o)) (gZ σ 10 o) (gI σ 11 o).toInt) = SPz w n m N s e := by
      unfold SPz
      rw [if_neg h0, Lg_log2 h3, h4]
      refine SP_congr (h5 _ (by omega)) (fun q => h5 _ (by omega))
    rw [eq] at c1 c2 c3
    exact ⟨sZ (sJ σ 12 o K) 13 o c, pw, F, frS_rd _ _ _ _, c1, c2, c3⟩
theorem SPz_rng {σ : St} {o : Nat} {w n : Nat} {m : Bool} {N : Nat} {s : Bool} {e : Int} (hnd : n = 24 ∨ n = 53 ∨ n = 64) (hS : SizeIs σ o N s e) : (SPz w n m N s e).1 < 64 ∧ (SPz w n m N s e).1 % 8 = 0 ∧ 0 ≤ (SPz w n m N s e).2.1 ∧ (SPz w n m N s e).2.1 ≤ 32767 := by
  unfold SPz
  rcases hS with ⟨h1, h2, h3⟩ | ⟨h0, h1, h2, t, h3, h4, h5⟩
  · rw [if_pos h1]
    decide
  · rw [if_neg h0, Lg_log2 h3]
    exact SP_rng0 (by omega)
def RealIs (σ : St) (a : Nat) (m : Bool) (P F : Nat) : Prop := gZ σ 15 a = m ∧ gI σ 16 a = nI P ∧ uN (gJ σ 17 a) = F ∧ P ≤ 32767
theorem RealIs_fr {σ τ : St} {a P F : Nat} {m : Bool} (h : RealIs σ a m P F) (f : frS σ τ) : RealIs τ a m P F := by
  refine ⟨?_, ?_, ?_, h.2.2.2⟩
  · rw [f.2.2 15 a (by decide) (by decide)]
    exact h.1
  · rw [f.1 16 a (by decide)]
    exact h.2.1
  · rw [f.2.1 17 a (by decide) (by decide) (by decide) (by decide)]
    exact h.2.2.1
theorem load2 (σ : St) (a b Pa Pb Fa Fb : Nat) (ma mb : Bool) (ha : RealIs σ a ma Pa Fa) (hb : RealIs σ b mb Pb Fb) : frS σ (f_Size_load (f_Size_load σ 4 a) 5 b) ∧ Loaded (f_Size_load (f_Size_load σ 4 a) 5 b) 4 Fa (unitN Pa) ∧ Loaded (f_Size_load (f_Size_load σ 4 a) 5 b) 5 Fb (unitN Pb) := by
  obtain ⟨h, u, c1, c2⟩ := load_spec σ 4 a Pa ha.2.2.2 ha.2.1
  have f1 := frS_szm σ 4 h 0 false u
  have hb' := RealIs_fr hb f1
  obtain ⟨h1, u1, d1, d2⟩ := load_spec (szm σ 4 h 0 false u) 5 b Pb hb.2.2.2 hb'.2.1
  rw [hb'.2.2.1] at d2
  rw [ha.2.2.1] at c2
  rw [c1, d1]
  exact ⟨frS_trans f1 (frS_szm _ _ _ _ _ _), Loaded_other (by decide) c2, d2⟩
