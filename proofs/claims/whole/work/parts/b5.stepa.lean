/-! the steps and the taking apart, whole codes -/
theorem give1 {K : K6} {a : Ab} {τ : St} (ha : AOK K a) (hm : RM a τ) : ∃ u, f_M_giveSteps τ 0 (f_M_topOf τ 0) (f_M_fractionOf τ 0) = u ∧ frM τ u ∧ gI u 27 42 = nI a.w ∧ RegIs u 110 111 0 (regN a 0) ∧ RM a u ∧ gZ u 9 30 = gZ τ 9 30 ∧ same3 τ u := by
  obtain ⟨tA, fA⟩ := of_M hm ha (k := 0) (by decide)
  obtain ⟨g1, g2, g3, -⟩ := give_M (r := 0) (by decide) hm.w ha.w fA (regN_ok ha 0)
  have e0 : f_M_giveSteps τ 0 (f_M_topOf τ 0) (f_M_fractionOf τ 0) = f_M_giveSteps τ (nI 0) (nI (topN (regN a 0))) (f_M_fractionOf τ (nI 0)) := by
    rw [← tA]
    rfl
  rw [e0]
  generalize f_M_giveSteps τ (nI 0) (nI (topN (regN a 0))) (f_M_fractionOf τ (nI 0)) = u at *
  exact ⟨u, rfl, g1, g2, g3, RM_X0 hm (frX_M g1) (by rw [(g1 8 30 (by decide) (by decide) (by decide)).1]; exact hm.now), (g1 9 30 (by decide) (by decide) (by decide)).2.2, same3_X (frX_M g1)⟩
theorem give2 {K : K6} {a : Ab} {τ : St} (ha : AOK K a) (hm : RM a τ) (hA : RegIs τ 110 111 0 (regN a 0)) : ∃ u, f_M_giveSteps τ 1 (f_M_topOf τ 1) (f_M_fractionOf τ 1) = u ∧ frM τ u ∧ gI u 27 42 = nI a.w ∧ RegIs u 110 111 0 (regN a 0) ∧ RegIs u 110 111 1 (regN a 1) ∧ RM a u ∧ gZ u 9 30 = gZ τ 9 30 ∧ same3 τ u := by
  obtain ⟨tA, fA⟩ := of_M hm ha (k := 1) (by decide)
  obtain ⟨g1, g2, g3, g4⟩ := give_M (r := 1) (by decide) hm.w ha.w fA (regN_ok ha 1)
  have g5 := g4 0 _ (by decide) hA
  have e0 : f_M_giveSteps τ 1 (f_M_topOf τ 1) (f_M_fractionOf τ 1) = f_M_giveSteps τ (nI 1) (nI (topN (regN a 1))) (f_M_fractionOf τ (nI 1)) := by
    rw [← tA]
    rfl
  rw [e0]
  generalize f_M_giveSteps τ (nI 1) (nI (topN (regN a 1))) (f_M_fractionOf τ (nI 1)) = u at *
  exact ⟨u, rfl, g1, g2, g5, g3, RM_X0 hm (frX_M g1) (by rw [(g1 8 30 (by decide) (by decide) (by decide)).1]; exact hm.now), (g1 9 30 (by decide) (by decide) (by decide)).2.2, same3_X (frX_M g1)⟩
theorem Outc_14 {σ s : St} {w t : Nat} {R : Nat × Ra} (o : Outc σ s w t 14 R) : frP σ s ∧ gI s 7 3 = nI (t ||| R.1) ∧ (endsN w R.1 = false → RaIs s 14 R.2) := ⟨frP_R o.1 (by decide), o.2.1, o.2.2.2⟩
theorem even_M {T : Nat} (h : T < 64) : (jrem (nI T) 2 = 0) ↔ T % 2 = 0 := by
  have e : jrem (nI T) 2 = nI (T % 2) := pk_rem (d := 2) (by omega) (by decide) (by decide)
  rw [e]
  exact nI_eq0 (by omega)
