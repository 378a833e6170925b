/-! the law's loop -/
def lvL (E : Ev) (b : Nat) (i : Int32) : List (Nat × Value) := [(4, .int i), (3, .ref (E.1 49)), (2, .ref (E.1 30)), (1, .ref (E.1 0)), (0, .ref b)]
section L3
variable {p : Program} {l : Launch} {e : Env} {s : State} {m : MethodId} {args : Array Value} {below : List Frame} {meth : Method} {c : Code} {Q : State → Prop} {E : Ev} {B b Ln : Nat} {xs : Nat → Int32}
theorem wv_widen {pc : Nat} {lv : List (Nat × Value)} {st : List Value} {ω : Om} {cells slots k n : Nat} (h1 : cells ≤ k) (h2 : slots ≤ n) (kk : WV p l e s m args below meth c Q E B pc lv st ω k n) : WV p l e s m args below meth c Q E B pc lv st ω cells slots := fun H locs ls hl hw => W.widen h1 h2 (kk H locs ls hl hw)
theorem ix_in {j k Ln : Nat} (h : 5 * j + k < Ln) (hL : Ln ≤ 2560) : vp_in (nI (5 * j) + nI k) Ln := by
  rw [nI_add]
  exact vp_in_nI h (by omega)
theorem len_gt {j Ln : Nat} (hj : j ≤ 512) (hL : Ln ≤ 2560) (h : ¬ Int32.ofNat Ln - 5 < nI (5 * j)) : 5 * j + 5 ≤ Ln := by
  have e0 : (Int32.ofNat Ln).toInt = (Ln : Int) := nI_toInt (n := Ln) (by omega)
  have e1 : (nI (5 * j)).toInt = ((5 * j : Nat) : Int) := nI_toInt (by omega)
  have e5 : (5 : Int32).toInt = 5 := by decide
  have e2 : (Int32.ofNat Ln - 5).toInt = (Ln : Int) - 5 := by
    rw [Int32.toInt_sub, e0, e5, Int.bmod_eq_of_le (by omega) (by omega)]
  rw [Int32.lt_iff_toInt_lt, e2, e1] at h
  omega
set_option maxRecDepth 20000 in
set_option maxHeartbeats 2000000 in
theorem law_loop (hC : Cl p s m args c E B b Ln xs) (hl0 : l.stackTraces = false) (hLn : Ln ≤ 2560) (hend : ∀ (lv : List (Nat × Value)) (ω : Om) (cells slots : Nat), cells ≤ 601024 → slots ≤ 7293034 → WV p l e s m args below meth c Q E B 470 lv [] ω cells slots) :
    ∀ (n j : Nat) (σ τ : St) (q : Int64), Ln < 5 * (j + n) + 5 → j ≤ 512 → Rest σ τ → WV p l e s m args below meth c Q E B 23 (lvL E b (nI (5 * j))) [] (σ, τ, q) (50 + j) (33474 + 6 * j) := by
  intro n
  induction n with
  | zero =>
    intro j σ τ q hn hj hR
    refine wv_iload hC 0 d_law_23 rfl ?_
    refine wv_aload_n hC 4 d_law_25 rfl rfl ?_
    refine wv_slen hC d_law_26 ?_
    refine wv_iconst hC 5 (by decide) d_law_27 ?_
    refine wv_isub hC d_law_28 ?_
    refine wv_gt hC 470 d_law_29 (by decide) (fun h => hend _ _ _ _ (by omega) (by omega)) (fun h => ?_)
    have := len_gt hj hLn h
    omega
  | succ n ih =>
    intro j σ τ q hn hj hR
    refine wv_iload hC 0 d_law_23 rfl ?_
    refine wv_aload_n hC 4 d_law_25 rfl rfl ?_
    refine wv_slen hC d_law_26 ?_
    refine wv_iconst hC 5 (by decide) d_law_27 ?_
    refine wv_isub hC d_law_28 ?_
    refine wv_gt hC 470 d_law_29 (by decide) (fun h => hend _ _ _ _ (by omega) (by omega)) (fun h => ?_)
    have hlt := len_gt hj hLn h
    have next : ∀ (σ1 τ1 : St) (q1 : Int64), Rest σ1 τ1 → WV p l e s m args below meth c Q E B 464 (lvL E b (nI (5 * j))) [] (σ1, τ1, q1) (50 + j + 1) (33474 + 6 * j + 6) := by
      intro σ1 τ1 q1 hR1
      refine wv_iinc hC (v := nI (5 * (j + 1))) (lv2 := lvL E b (nI (5 * (j + 1)))) 0 d_law_464 rfl (by rw [show (Int32.ofInt 5) = nI 5 from rfl, nI_add]; rfl) (by decide) rfl ?_
      refine wv_goto hC 23 d_law_467 (by decide) ?_
      have k := ih (j + 1) σ1 τ1 q1 (by omega) (by omega) hR1
      rw [show 50 + (j + 1) = 50 + j + 1 from by omega, show 33474 + 6 * (j + 1) = 33474 + 6 * j + 6 from by omega] at k
      exact k
    have hf : 50 + j + 1 ≤ room_1.cells ∧ 33474 + 6 * j + 6 ≤ room_1.slots := by
      show 50 + j + 1 ≤ 601024 ∧ 33474 + 6 * j + 6 ≤ 7293034
      omega
    have h0 : vp_in (nI (5 * j)) Ln := vp_in_nI (by omega) (by omega)
    have h1 : vp_in (nI (5 * j) + 1) Ln := ix_in (k := 1) (by omega) hLn
    have h2 : vp_in (nI (5 * j) + 2) Ln := ix_in (k := 2) (by omega) hLn
    have h3 : vp_in (nI (5 * j) + 3) Ln := ix_in (k := 3) (by omega) hLn
    have h4 : vp_in (nI (5 * j) + 4) Ln := ix_in (k := 4) (by omega) hLn
    refine wv_aload_n hC 4 d_law_32 rfl rfl ?_
    refine wv_iload hC 0 d_law_33 rfl ?_
    refine wv_sld hC h0 d_law_35 ?_
    refine wv_bipush hC 7 (by decide) d_law_36 ?_
    refine wv_iand hC d_law_38 ?_
    obtain ⟨k, hk, ek⟩ := vp_in_of (pk_andIn (xs (nI (5 * j)).toNatClampNeg) (m := 7) 3 rfl (by decide)) (by decide)
    rw [ek]
    have hk8 : k = 0 ∨ k = 1 ∨ k = 2 ∨ k = 3 ∨ k = 4 ∨ k = 5 ∨ k = 6 ∨ k = 7 := by omega
    rcases hk8 with rfl | rfl | rfl | rfl | rfl | rfl | rfl | rfl
    · refine wv_tsIn hC 0 76 d_law_39 (by decide) (by decide) rfl (by decide) ?_
      obtain ⟨kr, σ1, q1, hM, ht, hR1⟩ := case_memory (l := l) (E := E) (q := q) hl0 hR (xs (nI (5 * j) + 1).toNatClampNeg) (xs (nI (5 * j) + 2).toNatClampNeg)
      exact law_memory hC h1 h2 hM ht hf (next _ _ _ hR1)
    · refine wv_tsIn hC 1 124 d_law_39 (by decide) (by decide) rfl (by decide) ?_
      obtain ⟨kr, σ1, q1, hM, ht, ha, hR1⟩ := case_byteAt (l := l) (E := E) (q := q) hl0 hR (xs (nI (5 * j) + 1).toNatClampNeg)
      exact law_byteAt hC h1 hM ht ha hf (next _ _ _ hR1)
    · refine wv_tsIn hC 2 180 d_law_39 (by decide) (by decide) rfl (by decide) ?_
      obtain ⟨kr, σ1, q1, hM, ht, ha, hR1⟩ := case_execute (l := l) (E := E) (q := q) hl0 hR (xs (nI (5 * j) + 1).toNatClampNeg) (xs (nI (5 * j) + 2).toNatClampNeg) (xs (nI (5 * j) + 3).toNatClampNeg) (xs (nI (5 * j) + 4).toNatClampNeg)
      exact law_execute hC h1 h2 h3 h4 hM (memb_of hR) ht ha hf (next _ _ _ hR1)
    · refine wv_tsIn hC 3 272 d_law_39 (by decide) (by decide) rfl (by decide) ?_
      obtain ⟨kr, σ1, q1, hM, ht, ha, hR1⟩ := case_needs (l := l) (E := E) (q := q) hl0 hR (xs (nI (5 * j) + 1).toNatClampNeg) (xs (nI (5 * j) + 2).toNatClampNeg)
      exact law_needs hC h1 h2 hM ht ha hf (next _ _ _ hR1)
    · refine wv_tsIn hC 4 340 d_law_39 (by decide) (by decide) rfl (by decide) ?_
      obtain ⟨kr, σ1, q1, hM, ht, ha, hR1⟩ := case_word (l := l) (E := E) (q := q) hl0 hR (xs (nI (5 * j) + 1).toNatClampNeg)
      exact law_word hC h1 hM ht ha hf (next _ _ _ hR1)
    · refine wv_tsIn hC 5 396 d_law_39 (by decide) (by decide) rfl (by decide) ?_
      obtain ⟨kr, σ1, q1, hM, ht, ha, hR1⟩ := case_part (l := l) (E := E) (q := q) hl0 hR (xs (nI (5 * j) + 1).toNatClampNeg) (xs (nI (5 * j) + 2).toNatClampNeg)
      exact law_part hC h1 h2 hM ht ha hf (next _ _ _ hR1)
    · refine wv_tsOut hC 464 d_law_39 (Or.inr (by decide)) (by decide) ?_
      exact wv_widen (by omega) (by omega) (next _ _ _ hR)
    · refine wv_tsOut hC 464 d_law_39 (Or.inr (by decide)) (by decide) ?_
      exact wv_widen (by omega) (by omega) (next _ _ _ hR)
end L3
