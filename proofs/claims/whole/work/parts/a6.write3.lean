/-! the class: floating numbers and patterns written; all formats -/
theorem sgn_or {d p c : Nat} (h : dpc d p c) {x : Int64} {V : Nat} (mi : Bool) (hx : uN x = V) (hV : V < 2 ^ (d + p - 1)) : uN (x ||| (if mi = true then jlshl 1 (8 * nI c - 1) else 0)) = sgW d p mi + V := by
  have e := (flo_2 h).1
  have z : uN 0 = 0 := rfl
  rw [uN_orr, hx]
  unfold sgW
  cases mi with
  | true =>
    rw [if_pos (rfl : true = true), if_pos (rfl : true = true), e, Nat.or_comm]
    have := or_add (a := 1) (b := V) (k := d + p - 1) hV
    rw [Nat.one_mul] at this
    exact this
  | false =>
    rw [if_neg Bool.false_ne_true, if_neg Bool.false_ne_true, z, Nat.or_zero, Nat.zero_add]
theorem fin_flo {σ ρ : St} {w t T d p c V : Nat} {m : Nat → Nat} {x : Int64} {mi : Bool} (hdp : dpc d p c) (f : frY σ ρ) (hs : gI ρ 6 3 = nI w) (hw : w < 65536) (ht : gI ρ 7 3 = nI (t ||| T)) (htt : t < 64) (hT : T < 64) (hne : endsW w t = false) (hM : MB ρ m) (hx : uN x = V) (hV : V < 2 ^ (d + p - 1)) : WrC σ (if f_Ctl_endsWriting ρ = true then ρ else f_Mem_put ρ 0 (nI c) (x ||| (if mi = true then jlshl 1 (8 * nI c - 1) else 0))) w t m (T, c, vB (sgW d p mi + V)) := by
  obtain ⟨-, -, -, -, -, -, -, -, c8, -, -, -⟩ := flo_3 hdp
  exact fin_put f hs hw ht htt hT hne hM c8 (by rw [sgn_or hdp mi hx hV])
theorem up_C {d p c F : Nat} (h : dpc d p c) {f : Int64} (hf : uN f = F) : uN (jlushr (jlshl f 1) (64 - (nI d - 1))) = F / 2 ^ (64 - d) % 2 ^ (d - 1) := by
  have b := uN_lt f
  rcases h with ⟨rfl, rfl, rfl⟩ | ⟨rfl, rfl, rfl⟩
  · rw [uN_jlushr _ 41 (by decide) (by decide), uN_jlshl _ 1 (by decide) (by decide), hf]
    show F * 2 ^ 1 % 18446744073709551616 / 2199023255552 = F / 1099511627776 % 8388608
    omega
  · rw [uN_jlushr _ 12 (by decide) (by decide), uN_jlshl _ 1 (by decide) (by decide), hf]
    show F * 2 ^ 1 % 18446744073709551616 / 4096 = F / 2048 % 4503599627370496
    omega
theorem all_or {d p V : Nat} (h : V < 2 ^ (d - 1)) : allW d p ||| V = allW d p + V := or_add h
theorem writeFloating_C {σ : St} {w t a d p c : Nat} {m : Nat → Nat} {A : Re} (hdp : dpc d p c) (ha : RealIs σ a A.1 A.2.1 A.2.2) (hl : Loaded σ 9 A.2.2 (unitN A.2.1)) (hs : gI σ 6 3 = nI w) (hw : w < 65536) (ht : gI σ 7 3 = nI t) (htt : t < 64) (hne : endsW w t = false) (hM : MB σ m) : WrC σ (f_Wr_writeFloating σ (nI c) (nI d) a) w t m ((floW w d p A).1, c, vB (floW w d p A).2) := by
  obtain ⟨a1, a2, a3, a4, a5, a6, a7⟩ := allW_c hdp
  have p0 := pow_pos2 (d - 1)
  have v2 := flo_1 hdp
  have f2 := (flo_2 hdp).2
  have f3 := (flo_3 hdp).1
  have tn : (isNan A.2.1 A.2.2 = true) ↔ f_Real_kind σ a = 5 := (nan_N ha).symm
  have ht0 : gI σ 7 3 = nI (t ||| 0) := by rw [Nat.or_zero]; exact ht
  have ht1 : gI (f_Ctl_tell σ 1) 7 3 = nI (t ||| 1) := by rw [tell_7, ht, show (1 : Int32) = nI 1 from rfl, nI_or _ _ (by omega) (by decide)]
  unfold f_Wr_writeFloating
  rw [inf_N ha, nil_N ha, unn_N ha, f3]
  simp only [nan_N ha]
  unfold floW
  try dsimp only
  generalize hv : jlshl (jlshl 1 (8 * nI c - nI d) - 1) (nI d - 1) = v at *
  cases h1 : isInf A.2.1 A.2.2 with
  | true =>
    simp only [if_true]
    rw [ha.1]
    exact fin_flo hdp (frY_refl σ) hs hw ht0 htt (by decide) hne hM v2 (by omega)
  | false =>
    cases h2 : isNil A.2.1 A.2.2 with
    | true =>
      simp only [if_true, Bool.false_eq_true, if_false]
      rw [ha.1]
      have := fin_flo (σ := σ) (ρ := σ) (T := 0) (V := 0) (x := 0) (mi := A.1) hdp (frY_refl σ) hs hw ht0 htt (by decide) hne hM rfl (by omega)
      rw [Nat.add_zero] at this
      exact this
    | false =>
      cases h3 : isNan A.2.1 A.2.2 with
      | true =>
        simp only [if_true, Bool.false_eq_true, if_false]
        have e17 : gJ (f_Ctl_tell σ 1) 17 a = gJ σ 17 a := rfl
        rw [ha.1, e17]
        have u := up_C hdp ha.2.2.1
        generalize jlushr (jlshl (gJ σ 17 a) 1) (64 - (nI d - 1)) = U at *
        have u' : uN U = upW d A := u
        have ul : upW d A < 2 ^ (d - 1) := Nat.mod_lt _ p0
        have z : (U = 0) ↔ upW d A = 0 := by rw [uN_eq0, u']
        simp only [z]
        refine fin_flo hdp (frY_tell _ _) hs hw ht1 htt (by decide) hne (MB_tell hM 1) ?_ ?_
        · by_cases q : upW d A = 0
          · rw [if_pos q, if_pos q, uN_orr, v2, show uN 1 = 1 from rfl, all_or (by omega)]
          · rw [if_neg q, if_neg q, uN_orr, v2, u', all_or ul]
        · by_cases q : upW d A = 0
          · rw [if_pos q]
            omega
          · rw [if_neg q]
            omega
      | false =>
        cases h4 : isUnn A.2.1 A.2.2 with
        | true =>
          simp only [if_true, Bool.false_eq_true, if_false]
          have := fin_flo (σ := σ) (ρ := f_Ctl_tell σ 1) (T := 1) (V := allW d p + 2 ^ (d - 2)) (x := v ||| jlshl 1 (nI d - 1 - 1)) (mi := true) hdp (frY_tell _ _) hs hw ht1 htt (by decide) hne (MB_tell hM 1) (by rw [uN_orr, v2, f2, all_or (by omega)]) (by omega)
          rw [if_pos (rfl : true = true)] at this
          exact this
        | false =>
          simp only [Bool.false_eq_true, if_false]
          have z : A.2.2 ≠ 0 := fun q => by
            unfold isInf at h1
            unfold isNil at h2
            rw [q] at h1 h2
            by_cases g : A.2.1 = 32767 <;> simp [g] at h1 h2
          obtain ⟨ρ, K, r1, r2, r3, r4, r5⟩ := numberPattern_C hdp ha hl z hs hw v2
          rw [r2, ha.1]
          try dsimp only
          refine fin_flo hdp (frY_trans (frY_S r1) (frY_tell _ _)) ?_ hw ?_ htt r5 hne (MB_tell (MB_S hM r1) _) r3 (by omega)
          · rw [tell_6, r1.1 6 3 (by decide)]
            exact hs
          · rw [tell_7, r1.1 7 3 (by decide), ht, nI_or _ _ (by omega) (by omega)]
theorem top_C {σ : St} {a : Nat} {A : Re} (ha : RealIs σ a A.1 A.2.1 A.2.2) : f_Real_top σ a = nI (topN A) := by
  have p := ha.2.2.2
  unfold f_Real_top topN
  rw [ha.1, ha.2.1]
  cases A.1 with
  | true =>
    have e : (32768 : Int32) = nI (1 * 2 ^ 15) := rfl
    simp only [if_true]
    rw [e, nI_or _ _ (by omega) (by omega), or_add (by omega)]
    rfl
  | false =>
    have e : (0 : Int32) = nI 0 := rfl
    simp only [Bool.false_eq_true, if_false]
    rw [e, nI_or _ _ (by omega) (by omega), Nat.zero_or]
    simp
theorem writePattern_C {σ : St} {m : Nat → Nat} {a f : Nat} {A : Re} {F : Int32} (hF : F = nI f) (h : MB σ m) (ha : RealIs σ a A.1 A.2.1 A.2.2) (hf : f + 10 ≤ 94) : MB (f_Wr_writePattern σ F a) (putm (putm m f 8 A.2.2) (f + 8) 2 (topN A)) ∧ fr100 σ (f_Wr_writePattern σ F a) := by
  obtain ⟨k1, k2⟩ := put_at h f 8 (F := F) (N := 8) hF rfl (gJ σ 17 a) (by decide) (by omega)
  rw [ha.2.2.1] at k1
  have ha1 : RealIs (f_Mem_put σ F 8 (gJ σ 17 a)) a A.1 A.2.1 A.2.2 := ⟨(k2.2.2 15 a).trans ha.1, (k2.1 16 a (by decide)).trans ha.2.1, by rw [k2.2.1 17 a]; exact ha.2.2.1, ha.2.2.2⟩
  unfold f_Wr_writePattern
  try dsimp only
  generalize f_Mem_put σ F 8 (gJ σ 17 a) = s1 at *
  have e8 : F + 8 = nI (f + 8) := by
    rw [hF]
    exact nI_add f 8
  have tl := topN_lt ha.2.2.2
  obtain ⟨k3, k4⟩ := put_at k1 (f + 8) 2 (F := F + 8) (N := 2) e8 rfl (Int32.toInt64 (f_Real_top s1 a)) (by decide) (by omega)
  rw [top_C ha1, uN_nI (by omega)] at k3
  rw [top_C ha1] at k4 ⊢
  exact ⟨k3, fr100_trans k2 k4⟩
theorem pat_b {m : Nat → Nat} {F T : Nat} (hF : F < 2 ^ 64) : putm (putm m 0 8 F) (0 + 8) 2 T = newB m 10 (vB (F + 2 ^ 64 * T)) := by
  have e64 : (2 : Nat) ^ 64 = 256 ^ 8 := rfl
  funext k
  unfold putm newB vB
  by_cases c : k < 8
  · rw [if_neg (by omega), if_pos ⟨by omega, by omega⟩, if_pos (by omega), Nat.sub_zero, ← byte_mod (F + 2 ^ 64 * T) 8 k c, e64, Nat.add_mul_mod_self_left, ← e64, Nat.mod_eq_of_lt hF]
  · by_cases c2 : k < 10
    · rw [if_pos ⟨by omega, by omega⟩, if_pos c2, Nat.zero_add]
      obtain ⟨j, rfl⟩ : ∃ j, k = 8 + j := ⟨k - 8, by omega⟩
      rw [Nat.pow_add 256 8 j, ← Nat.div_div_eq_div_mul, ← e64, Nat.add_mul_div_left _ _ (pow_pos2 64), Nat.div_eq_of_lt hF, Nat.zero_add, Nat.add_sub_cancel_left]
    · rw [if_neg (by omega), if_neg (by omega), if_neg c2]
theorem wr0 (σ : St) (a : Nat) : f_Wr_write σ (nI 0) a = f_Wr_writeWhole (f_Size_load σ 9 a) 2 a := by
  unfold f_Wr_write
  try dsimp only
  rw [if_pos (show nI 0 = 0 by decide)]
theorem wr1 (σ : St) (a : Nat) : f_Wr_write σ (nI 1) a = f_Wr_writeWhole (f_Size_load σ 9 a) 4 a := by
  unfold f_Wr_write
  try dsimp only
  rw [if_neg (show ¬ nI 1 = 0 by decide), if_pos (show nI 1 = 1 by decide)]
theorem wr2 (σ : St) (a : Nat) : f_Wr_write σ (nI 2) a = f_Wr_writeWhole (f_Size_load σ 9 a) 8 a := by
  unfold f_Wr_write
  try dsimp only
  rw [if_neg (show ¬ nI 2 = 0 by decide), if_neg (show ¬ nI 2 = 1 by decide), if_pos (show nI 2 = 2 by decide)]
theorem wr3 (σ : St) (a : Nat) : f_Wr_write σ (nI 3) a = f_Wr_writeFloating (f_Size_load σ 9 a) 4 24 a := by
  unfold f_Wr_write
  try dsimp only
  rw [if_neg (show ¬ nI 3 = 0 by decide), if_neg (show ¬ nI 3 = 1 by decide), if_neg (show ¬ nI 3 = 2 by decide), if_pos (show nI 3 = 3 by decide)]
theorem wr4 (σ : St) (a : Nat) : f_Wr_write σ (nI 4) a = f_Wr_writeFloating (f_Size_load σ 9 a) 8 53 a := by
  unfold f_Wr_write
  try dsimp only
  rw [if_neg (show ¬ nI 4 = 0 by decide), if_neg (show ¬ nI 4 = 1 by decide), if_neg (show ¬ nI 4 = 2 by decide), if_neg (show ¬ nI 4 = 3 by decide), if_pos (show nI 4 = 4 by decide)]
theorem wr5 (σ : St) (a : Nat) : f_Wr_write σ (nI 5) a = f_Wr_writeDecimals (f_Size_load σ 9 a) a := by
  unfold f_Wr_write
  try dsimp only
  rw [if_neg (show ¬ nI 5 = 0 by decide), if_neg (show ¬ nI 5 = 1 by decide), if_neg (show ¬ nI 5 = 2 by decide), if_neg (show ¬ nI 5 = 3 by decide), if_neg (show ¬ nI 5 = 4 by decide), if_pos (show nI 5 = 5 by decide)]
theorem wr6 (σ : St) (a : Nat) : f_Wr_write σ (nI 6) a = f_Wr_writePattern (f_Size_load σ 9 a) 0 a := by
  unfold f_Wr_write
  try dsimp only
  rw [if_neg (show ¬ nI 6 = 0 by decide), if_neg (show ¬ nI 6 = 1 by decide), if_neg (show ¬ nI 6 = 2 by decide), if_neg (show ¬ nI 6 = 3 by decide), if_neg (show ¬ nI 6 = 4 by decide), if_neg (show ¬ nI 6 = 5 by decide)]
theorem ws0 (w : Nat) (A : Re) : writeS w 0 A = ((whoW w 16 A).1, 2, vB (whoW w 16 A).2) := if_pos rfl
theorem ws1 (w : Nat) (A : Re) : writeS w 1 A = ((whoW w 32 A).1, 4, vB (whoW w 32 A).2) := by
  unfold writeS
  rw [if_neg (by decide), if_pos rfl]
theorem ws2 (w : Nat) (A : Re) : writeS w 2 A = ((whoW w 64 A).1, 8, vB (whoW w 64 A).2) := by
  unfold writeS
  rw [if_neg (by decide), if_neg (by decide), if_pos rfl]
theorem ws3 (w : Nat) (A : Re) : writeS w 3 A = ((floW w 24 8 A).1, 4, vB (floW w 24 8 A).2) := by
  unfold writeS
  rw [if_neg (by decide), if_neg (by decide), if_neg (by decide), if_pos rfl]
theorem ws4 (w : Nat) (A : Re) : writeS w 4 A = ((floW w 53 11 A).1, 8, vB (floW w 53 11 A).2) := by
  unfold writeS
  rw [if_neg (by decide), if_neg (by decide), if_neg (by decide), if_neg (by decide), if_pos rfl]
theorem ws5 (w : Nat) (A : Re) : writeS w 5 A = ((decW A).1, 10, (decW A).2) := by
  unfold writeS
  rw [if_neg (by decide), if_neg (by decide), if_neg (by decide), if_neg (by decide), if_neg (by decide), if_pos rfl]
theorem ws6 (w : Nat) (A : Re) : writeS w 6 A = (0, 10, vB (A.2.2 + 2 ^ 64 * topN A)) := by
  unfold writeS
  rw [if_neg (by decide), if_neg (by decide), if_neg (by decide), if_neg (by decide), if_neg (by decide), if_neg (by decide)]
theorem WrC_pre {σ s τ : St} {w t : Nat} {m : Nat → Nat} {R : Nat × Nat × (Nat → Nat)} (f : frY σ s) (o : WrC s τ w t m R) : WrC σ τ w t m R := ⟨frY_trans f o.1, o.2⟩
theorem write_C {σ : St} {w t a fm : Nat} {m : Nat → Nat} {A : Re} (hfm : fm ≤ 6) (ha : RealIs σ a A.1 A.2.1 A.2.2) (hs : gI σ 6 3 = nI w) (hw : w < 65536) (ht : gI σ 7 3 = nI t) (htt : t < 64) (hne : endsW w t = false) (hM : MB σ m) : WrC σ (f_Wr_write σ (nI fm) a) w t m (writeS w fm A) := by
  obtain ⟨h, u, c1, c2⟩ := load_spec σ 9 a A.2.1 ha.2.2.2 ha.2.1
  rw [ha.2.2.1] at c2
  have fs := frS_szm σ 9 h 0 false u
  have ha1 := RealIs_fr ha fs
  have s6 : gI (szm σ 9 h 0 false u) 6 3 = nI w := by rw [fs.1 6 3 (by decide)]; exact hs
  have s7 : gI (szm σ 9 h 0 false u) 7 3 = nI t := by rw [fs.1 7 3 (by decide)]; exact ht
  have m1 := MB_S hM fs
  have bF : A.2.2 < 2 ^ 64 := by
    rw [← ha.2.2.1]
    exact uN_lt2 _
  rw [← c1] at c2 fs ha1 s6 s7 m1
  rcases (show fm = 0 ∨ fm = 1 ∨ fm = 2 ∨ fm = 3 ∨ fm = 4 ∨ fm = 5 ∨ fm = 6 by omega) with rfl | rfl | rfl | rfl | rfl | rfl | rfl
  · rw [wr0, ws0]
    generalize f_Size_load σ 9 a = s at *
    exact WrC_pre (frY_S fs) (writeWhole_C (n := 16) (Or.inl rfl) ha1 c2 s6 hw s7 htt hne m1)
  · rw [wr1, ws1]
    generalize f_Size_load σ 9 a = s at *
    exact WrC_pre (frY_S fs) (writeWhole_C (n := 32) (Or.inr (Or.inl rfl)) ha1 c2 s6 hw s7 htt hne m1)
  · rw [wr2, ws2]
    generalize f_Size_load σ 9 a = s at *
    exact WrC_pre (frY_S fs) (writeWhole_C (n := 64) (Or.inr (Or.inr rfl)) ha1 c2 s6 hw s7 htt hne m1)
  · rw [wr3, ws3]
    generalize f_Size_load σ 9 a = s at *
    exact WrC_pre (frY_S fs) (writeFloating_C (d := 24) (p := 8) (c := 4) (Or.inl ⟨rfl, rfl, rfl⟩) ha1 c2 s6 hw s7 htt hne m1)
  · rw [wr4, ws4]
    generalize f_Size_load σ 9 a = s at *
    exact WrC_pre (frY_S fs) (writeFloating_C (d := 53) (p := 11) (c := 8) (Or.inr ⟨rfl, rfl, rfl⟩) ha1 c2 s6 hw s7 htt hne m1)
  · rw [wr5, ws5]
    generalize f_Size_load σ 9 a = s at *
    exact WrC_pre (frY_S fs) (writeDecimals_C ha1 c2 s6 hw s7 htt hne m1)
  · rw [wr6, ws6]
    generalize f_Size_load σ 9 a = s at *
    obtain ⟨k1, k2⟩ := writePattern_C (f := 0) (F := 0) rfl m1 ha1 (by decide)
    rw [pat_b bF] at k1
    generalize f_Wr_writePattern s 0 a = ν at *
    have e0 : endsW w 0 = false := by
      unfold endsW endsN
      simp
    refine ⟨frY_trans (frY_S fs) (frY_100 k2), ?_, (show 0 < 64 by decide), ?_⟩
    · show gI ν 7 3 = nI (t ||| 0)
      rw [k2.1 7 3 (by decide), Nat.or_zero]
      exact s7
    · show MB ν (if endsW w 0 = true then m else _)
      rw [e0, if_neg Bool.false_ne_true]
      exact k1
