/-! the reference: whole numbers and decimals written -/
def CIn (τ : St) (A : Re) (w : Nat) : Prop := gZ τ 39 45 = A.1 ∧ gI τ 40 45 = nI A.2.1 ∧ uN (gJ τ 41 45) = A.2.2 ∧ A.2.1 ≤ 32767 ∧ gI τ 38 45 = nI w
def WOuC (τ : St) (r : Int32 × St) (w : Nat) (R : Nat × Nat × (Nat → Nat)) : Prop := r.1 = nI R.1 ∧ frD τ r.2 ∧ Byt r.2 ∧ R.1 < 64 ∧ (endsW w R.1 = false → ∀ k, k < R.2.1 → gI r.2 114 k = nI (R.2.2 k))
theorem way_B {τ : St} {w : Nat} (hwd : gI τ 38 45 = nI w) (hw : w < 65536) : f_MC_way τ = nI (wayOf w) := by
  unfold f_MC_way
  rw [hwd]
  exact rem_M hw 1024 4 (by decide) (by decide) (by decide) (by decide)
theorem isNum_B {τ : St} {P : Nat} (hP : gI τ 40 45 = nI P) (pP : P ≤ 32767) : f_MC_isNumber τ = !decide (P = 32767) := by
  have c : ((32767 : Int32) ≤ nI P) ↔ P = 32767 := by
    have : ((32767 : Int32) ≤ nI P) ↔ 32767 ≤ P := nI_leI (a := 32767) (by decide) (by omega)
    rw [this]
    omega
  unfold f_MC_isNumber
  simp only [hP, c]
  by_cases q : P = 32767
  · rw [if_pos q, decide_eq_true q]
    rfl
  · rw [if_neg q, decide_eq_false q]
    rfl
theorem bytes_B {ρ : St} {γ : Nat → Bool} {V c : Nat} (h : BA ρ γ) (hc : c ≤ 10) (hγ : ∀ x, x < 8 * c → γ x = V.testBit x) : ∀ k, k < c → gI ρ 114 k = nI (vB V k) := fun k hk => by
  rw [h k (by omega)]
  congr 1
  unfold vB
  rw [← by8_N]
  apply by8_congr
  intro j hj
  exact hγ _ (by omega)
theorem tb_modn {X V n x : Nat} (h : X % 2 ^ n = V % 2 ^ n) (hx : x < n) : X.testBit x = V.testBit x := by
  have e1 := Nat.testBit_mod_two_pow X n x
  have e2 := Nat.testBit_mod_two_pow V n x
  rw [h, e2] at e1
  simp [hx] at e1
  exact e1.symm
theorem sb0 (τ : St) (n : Int32) (v : Int64) : f_MC_setBits τ 0 n v = f_MC_setBits τ (nI 0) n v := congrArg (fun z => f_MC_setBits τ z n v) (show (0 : Int32) = nI 0 from rfl)
theorem setAll_B {τ : St} {c V n : Nat} {v : Int64} (hb : Byt τ) (hn : n = 8 * c) (hc : c ≤ 8) (hv : uN v % 2 ^ n = V % 2 ^ n) : fr114 τ (f_MC_setBits τ 0 (nI n) v) ∧ Byt (f_MC_setBits τ 0 (nI n) v) ∧ ∀ k, k < c → gI (f_MC_setBits τ 0 (nI n) v) 114 k = nI (vB V k) := by
  obtain ⟨β, hβ⟩ := BA_Byt hb
  obtain ⟨k1, k2⟩ := setBits_B hβ 0 n v (by omega) (by omega)
  rw [← sb0] at k1 k2
  refine ⟨k2, Byt_BA k1, bytes_B k1 (by omega) (fun x hx => ?_)⟩
  show (if 0 ≤ x ∧ x < 0 + n then (uN v).testBit (x - 0) else β x) = _
  rw [if_pos ⟨by omega, by omega⟩, Nat.sub_zero]
  exact tb_modn hv (by omega)
theorem endsW1 (w : Nat) : endsW w 1 = !decide (w % 2 = 1) := by
  unfold endsW endsN
  rcases Nat.mod_two_eq_zero_or_one w with z | z <;> simp [z]
theorem masked1 {τ : St} {w : Nat} (hwd : gI τ 38 45 = nI w) (hw : w < 65536) : f_MC_masked τ 1 = decide (w % 2 = 1) := by
  have := masked_C hwd hw 0 (by decide)
  rw [Nat.pow_zero, Nat.div_one] at this
  exact this
theorem Byt_114 {τ ρ : St} (h : Byt τ) (f : frC τ ρ) : Byt ρ := Byt_eq (fun k => (f 114 k (by decide) (by decide)).1) h
theorem t2_B {n : Nat} (hn : n = 16 ∨ n = 32 ∨ n = 64) (u : Int64) : (if u < 0 then false else if nI n = 64 then true else if jlshl 1 (nI n - 1) ≤ u then false else true) = decide (uN u < 2 ^ (n - 1)) := by
  have c1 : (u < 0) ↔ 9223372036854775808 ≤ uN u := uN_neg
  have b := uN_lt u
  have u1 : uN 1 = 1 := rfl
  rcases hn with rfl | rfl | rfl
  · have v : uN (jlshl 1 (nI 16 - 1)) = 32768 := by rw [uN_jlshl 1 15 (by decide) (by decide), u1]
    simp only [c1]
    rw [if_neg (show ¬ nI 16 = 64 by decide), show (2 : Nat) ^ (16 - 1) = 32768 from rfl]
    by_cases q : 9223372036854775808 ≤ uN u
    · rw [if_pos q, decide_eq_false (by omega)]
    · rw [if_neg q]
      simp only [l_le (x := jlshl 1 (nI 16 - 1)) (y := u) (by omega) (by omega), v]
      by_cases q2 : 32768 ≤ uN u
      · rw [if_pos q2, decide_eq_false (by omega)]
      · rw [if_neg q2, decide_eq_true (by omega)]
  · have v : uN (jlshl 1 (nI 32 - 1)) = 2147483648 := by rw [uN_jlshl 1 31 (by decide) (by decide), u1]
    simp only [c1]
    rw [if_neg (show ¬ nI 32 = 64 by decide), show (2 : Nat) ^ (32 - 1) = 2147483648 from rfl]
    by_cases q : 9223372036854775808 ≤ uN u
    · rw [if_pos q, decide_eq_false (by omega)]
    · rw [if_neg q]
      simp only [l_le (x := jlshl 1 (nI 32 - 1)) (y := u) (by omega) (by omega), v]
      by_cases q2 : 2147483648 ≤ uN u
      · rw [if_pos q2, decide_eq_false (by omega)]
      · rw [if_neg q2, decide_eq_true (by omega)]
  · simp only [c1]
    rw [if_pos (show nI 64 = 64 by decide), show (2 : Nat) ^ (64 - 1) = 9223372036854775808 from rfl]
    by_cases q : 9223372036854775808 ≤ uN u
    · rw [if_pos q, decide_eq_false (by omega)]
    · rw [if_neg q, decide_eq_true (by omega)]
theorem one_n {n : Nat} (hn : n = 16 ∨ n = 32 ∨ n = 64) : uN (jlshl 1 (nI n - 1)) = 2 ^ (n - 1) ∧ n = 8 * (n / 8) ∧ n / 8 ≤ 8 := by
  have u1 : uN 1 = 1 := rfl
  refine ⟨?_, by omega, by omega⟩
  rcases hn with rfl | rfl | rfl
  · rw [uN_jlshl 1 15 (by decide) (by decide), u1]
  · rw [uN_jlshl 1 31 (by decide) (by decide), u1]
  · rw [uN_jlshl 1 63 (by decide) (by decide), u1]
theorem bad_B {τ ρ : St} {w c : Nat} {V : Nat → Nat} {ν : St} (f : frC τ ρ) (hb : Byt ρ) (hwd : gI ρ 38 45 = nI w) (hw : w < 65536) (g : fr114 ρ ν) (hν : Byt ν) (hV : ∀ k, k < c → gI ν 114 k = nI (V k)) : WOuC τ (1, if f_MC_masked ρ 1 = true then ν else ρ) w (1, c, V) := by
  rw [masked1 hwd hw]
  by_cases q : w % 2 = 1
  · rw [decide_eq_true q, if_pos (rfl : true = true)]
    exact ⟨rfl, frD_trans (frD_C f) (frD_114 g), hν, (show 1 < 64 by decide), fun _ => hV⟩
  · rw [decide_eq_false q, if_neg Bool.false_ne_true]
    refine ⟨rfl, frD_C f, hb, (show 1 < 64 by decide), fun e => ?_⟩
    have e' : endsW w 1 = false := e
    rw [endsW1, decide_eq_false q] at e'
    cases e'
theorem wK_wX {A : Re} {way : Nat} {K : Nat} (hF : A.2.2 < 2 ^ 64) (hb : ¬ 18446744073709551616 ≤ (wX A).1) (hK : K = rnd way A.1 (wX A) % 18446744073709551616) : K = wK way A := by
  rw [hK]
  exact Nat.mod_eq_of_lt (rnd64 hF hb)
theorem writeWhole_B {τ : St} {w n : Nat} {A : Re} (hn : n = 16 ∨ n = 32 ∨ n = 64) (h : CIn τ A w) (hb : Byt τ) (hw : w < 65536) : WOuC τ (f_MC_writeWhole τ (nI n)) w ((whoW w n A).1, n / 8, vB (whoW w n A).2) := by
  obtain ⟨h1, h2, h3, h4, h5⟩ := h
  obtain ⟨v1, n8, n9⟩ := one_n hn
  have bF := uN_lt2 (gJ τ 41 45)
  rw [h3] at bF
  have way4 : wayOf w ≤ 4 := by have := wayOf_lt w; omega
  have bad : ∀ ρ : St, frC τ ρ → ¬ (wBig A = false ∧ (wK (wayOf w) A < 2 ^ (n - 1) ∨ (A.1 = true ∧ wK (wayOf w) A = 2 ^ (n - 1)))) → gI ρ 38 45 = nI w → WOuC τ (1, if f_MC_masked ρ 1 = true then f_MC_setBits ρ 0 (nI n) (jlshl 1 (nI n - 1)) else ρ) w ((whoW w n A).1, n / 8, vB (whoW w n A).2) := fun ρ f q g38 => by
    obtain ⟨k1, k2, k3⟩ := setAll_B (τ := ρ) (V := 2 ^ (n - 1)) (v := jlshl 1 (nI n - 1)) (Byt_114 hb f) n8 n9 (by rw [v1])
    rw [who_bad q]
    exact bad_B f (Byt_114 hb f) g38 hw k1 k2 k3
  unfold f_MC_writeWhole
  rw [isNum_B h2 h4, way_B h5 hw]
  try dsimp only
  by_cases p : A.2.1 = 32767
  · rw [decide_eq_true p]
    simp only [Bool.not_true, Bool.false_eq_true, if_false]
    refine bad τ (frC_refl τ) (fun q => ?_) h5
    have := q.1
    unfold wBig at this
    rw [decide_eq_true p] at this
    simp at this
  · rw [decide_eq_false p]
    simp only [Bool.not_false, if_true]
    obtain ⟨r1, r2, r3, r4⟩ := round_B (Q := 0) (q := 0) h1 h2 h4 h3 rfl (by decide) way4
    have ex : RQ A.2.2 false (unitN A.2.1) 0 = wX A := rfl
    rw [ex] at r2 r3 r4
    generalize f_MC_round τ 0 (nI (wayOf w)) = s at *
    have g39 : gZ s 39 45 = A.1 := by rw [r1.2.2 39 45 (by decide) (by decide)]; exact h1
    have g38 : gI s 38 45 = nI w := by rw [r1.1 38 45]; exact h5
    have b114 := Byt_114 hb (frC_42 r1)
    have wb : wBig A = decide (18446744073709551616 ≤ (wX A).1) := by
      unfold wBig
      rw [decide_eq_false p, Bool.false_or, big_B]
    rw [r2, g39, t2_B hn]
    by_cases g : 18446744073709551616 ≤ (wX A).1
    · rw [decide_eq_true g]
      simp only [if_true, Bool.false_eq_true, if_false]
      refine bad s (frC_42 r1) (fun q => ?_) g38
      have := q.1
      rw [wb, decide_eq_true g] at this
      cases this
    · rw [decide_eq_false g] at wb ⊢
      have kk := wK_wX (way := wayOf w) bF g r4
      rw [kk]
      have c3 : (gJ s 42 45 = jlshl 1 (nI n - 1)) ↔ wK (wayOf w) A = 2 ^ (n - 1) := by rw [uN_eq, kk, v1]
      simp only [Bool.false_eq_true, if_false, c3]
      by_cases c : wK (wayOf w) A < 2 ^ (n - 1) ∨ (A.1 = true ∧ wK (wayOf w) A = 2 ^ (n - 1))
      · have ok : (if decide (wK (wayOf w) A < 2 ^ (n - 1)) = true then true else if A.1 = true then (if wK (wayOf w) A = 2 ^ (n - 1) then true else false) else false) = true := by
          rcases c with c | ⟨c1, c2⟩
          · rw [decide_eq_true c, if_pos (rfl : true = true)]
          · rw [c1, if_pos (rfl : true = true), if_pos c2]
            split <;> rfl
        rw [ok]
        simp only [if_true]
        have le : wK (wayOf w) A ≤ 2 ^ (n - 1) := by omega
        have hv : uN (if A.1 = true then 0 - gJ s 42 45 else gJ s 42 45) % 2 ^ n = ((if A.1 then 2 ^ n - wK (wayOf w) A else wK (wayOf w) A) % 2 ^ n) % 2 ^ n := by
          cases A.1 with
          | true =>
            rw [if_pos (rfl : true = true), if_pos (rfl : true = true), uN_sub, kk, show uN 0 = 0 from rfl, Nat.zero_add]
            exact whole_neg hn le
          | false =>
            rw [if_neg Bool.false_ne_true, if_neg Bool.false_ne_true, kk, Nat.mod_mod]
        obtain ⟨k1, k2, k3⟩ := setAll_B (τ := s) b114 n8 n9 hv
        have g44 : gZ (f_MC_setBits s 0 (nI n) (if A.1 = true then 0 - gJ s 42 45 else gJ s 42 45)) 44 45 = lossy (wX A) := by rw [k1.2.2 44 45]; exact r3
        rw [g44, (los_n (lossy (wX A))).1]
        rw [who_ok ⟨wb, c⟩]
        exact ⟨rfl, frD_trans (frD_C (frC_42 r1)) (frD_114 k1), k2, (los_n (lossy (wX A))).2, fun _ => k3⟩
      · have no : (if decide (wK (wayOf w) A < 2 ^ (n - 1)) = true then true else if A.1 = true then (if wK (wayOf w) A = 2 ^ (n - 1) then true else false) else false) = false := by
          have n1 : ¬ wK (wayOf w) A < 2 ^ (n - 1) := fun q => c (Or.inl q)
          rw [decide_eq_false n1, if_neg Bool.false_ne_true]
          cases hA : A.1 with
          | true =>
            have n2 : ¬ wK (wayOf w) A = 2 ^ (n - 1) := fun q => c (Or.inr ⟨hA, q⟩)
            rw [if_pos (rfl : true = true), if_neg n2]
          | false => rw [if_neg Bool.false_ne_true]
        rw [no]
        simp only [Bool.false_eq_true, if_false]
        exact bad s (frC_42 r1) (fun q => c q.2) g38
def frE (τ ρ : St) : Prop := (∀ k x, k ≠ 114 → gI ρ k x = gI τ k x) ∧ (∀ k x, k ≠ 42 → gJ ρ k x = gJ τ k x) ∧ (∀ k x, gZ ρ k x = gZ τ k x)
theorem frE_refl (τ : St) : frE τ τ := ⟨fun _ _ _ => rfl, fun _ _ _ => rfl, fun _ _ => rfl⟩
theorem frE_trans {τ ρ σ : St} (h : frE τ ρ) (g : frE ρ σ) : frE τ σ := ⟨fun k x a => (g.1 k x a).trans (h.1 k x a), fun k x a => (g.2.1 k x a).trans (h.2.1 k x a), fun k x => (g.2.2 k x).trans (h.2.2 k x)⟩
theorem frE_114 {τ ρ : St} (h : fr114 τ ρ) : frE τ ρ := ⟨h.1, fun k x _ => h.2.1 k x, h.2.2⟩
theorem frE_42 (τ : St) (v : Int64) : frE τ (sJ τ 42 45 v) := ⟨fun _ _ _ => rfl, fun k x a => by rw [gJ_sJ, if_neg a], fun _ _ => rfl⟩
theorem frD_E {τ ρ : St} (h : frE τ ρ) : frD τ ρ := fun k x a b => ⟨h.1 k x (by omega), h.2.1 k x (by omega), h.2.2 k x⟩
def decγ (β : Nat → Bool) (K i : Nat) : Nat → Bool := fun x => if x < 4 * i then (K / 10 ^ (x / 4) % 10).testBit (x % 4) else β x
theorem dec_loopB {s : St} {β : Nat → Bool} {K : Nat} (hB : BA s β) (hK : uN (gJ s 42 45) = K) (hl : K < 1000000000000000000) : frE s (lpn b_MC_writeDecimals_111 (upf 18 0) (0, s)).2 ∧ BA (lpn b_MC_writeDecimals_111 (upf 18 0) (0, s)).2 (decγ β K 18) := by
  refine lpn_P (b := b_MC_writeDecimals_111) (fun i t => t.1 = nI i ∧ uN (gJ t.2 42 45) = K / 10 ^ i ∧ frE s t.2 ∧ BA t.2 (decγ β K i)) (fun y => frE s y.2 ∧ BA y.2 (decγ β K 18)) 18 ?_ ?_ ?_ ?_
  · intro i t hi ⟨t1, t2, t3, t4⟩
    obtain ⟨a, s1⟩ := t
    simp only at t1 t2 t3 t4
    subst t1
    have c1 : ¬ (18 : Int32) ≤ nI i := nI_ge (b := 18) (by omega) (by decide)
    have kl : K / 10 ^ i ≤ K := Nat.div_le_self _ _
    obtain ⟨d1, d2⟩ := ldiv_n (v := gJ s1 42 45) (y := 10) (d := 10) (by omega) (by decide) (by decide)
    have e4 : (4 : Int32) * nI i = nI (4 * i) := pk_mul 4 i
    obtain ⟨p1, p2⟩ := setBits_B t4 (4 * i) 4 (jlrem (gJ s1 42 45) 10) (by decide) (by omega)
    have q1 : f_MC_setBits s1 (4 * nI i) 4 (jlrem (gJ s1 42 45) 10) = f_MC_setBits s1 (nI (4 * i)) (nI 4) (jlrem (gJ s1 42 45) 10) := congrArg (fun z => f_MC_setBits s1 z 4 (jlrem (gJ s1 42 45) 10)) e4
    have g42 : gJ (f_MC_setBits s1 (nI (4 * i)) (nI 4) (jlrem (gJ s1 42 45) 10)) 42 45 = gJ s1 42 45 := p2.2.1 42 45
    have eg : (fun x => if 4 * i ≤ x ∧ x < 4 * i + 4 then (uN (jlrem (gJ s1 42 45) 10)).testBit (x - 4 * i) else decγ β K i x) = decγ β K (i + 1) := by
      funext x
      unfold decγ
      rw [d2, t2]
      by_cases c : 4 * i ≤ x ∧ x < 4 * i + 4
      · have x4 : x / 4 = i := by omega
        have x5 : x % 4 = x - 4 * i := by omega
        rw [if_pos c, if_pos (by omega), x4, x5]
      · rw [if_neg c]
        by_cases c2 : x < 4 * i
        · rw [if_pos c2, if_pos (by omega)]
        · rw [if_neg c2, if_neg (by omega)]
    rw [eg] at p1
    refine ⟨(nI (i + 1), sJ (f_MC_setBits s1 (nI (4 * i)) (nI 4) (jlrem (gJ s1 42 45) 10)) 42 45 (gJ s1 42 45 / 10)), ?_, rfl, ?_, frE_trans t3 (frE_trans (frE_114 p2) (frE_42 _ _)), p1⟩
    · unfold b_MC_writeDecimals_111
      simp only [c1, if_false, q1, g42, nI_1]
    · show uN (gJ (sJ _ 42 45 (gJ s1 42 45 / 10)) 42 45) = _
      rw [gJ_sJ, if_pos rfl, if_pos rfl, d1, t2, Nat.pow_succ, Nat.div_div_eq_div_mul]
  · intro t ⟨t1, t2, t3, t4⟩
    obtain ⟨a, s1⟩ := t
    simp only at t1 t2 t3 t4
    subst t1
    refine ⟨(nI 18, s1), ?_, t3, t4⟩
    have c1 : (18 : Int32) ≤ nI 18 := by decide
    unfold b_MC_writeDecimals_111
    simp only [c1, if_true]
  · decide
  · refine ⟨rfl, ?_, frE_refl s, ?_⟩
    · show uN (gJ s 42 45) = K / 10 ^ 0
      rw [hK, Nat.pow_zero, Nat.div_one]
    · have : decγ β K 0 = β := by
        funext x
        unfold decγ
        rw [if_neg (by omega)]
      show BA s (decγ β K 0)
      rw [this]
      exact hB
theorem tb_two {a b j : Nat} (ha : a < 16) (hj : j < 8) : (a + 16 * b).testBit j = if j < 4 then a.testBit j else b.testBit (j - 4) := by
  have := Nat.testBit_two_pow_mul_add b (b := a) (i := 4) ha j
  rw [Nat.add_comm, show (16 : Nat) = 2 ^ 4 from rfl]
  exact this
theorem dec_by {β : Nat → Bool} {K : Nat} {mi : Bool} {k : Nat} (hk : k < 9) : by8 (fun j => decγ β K 18 (8 * k + j)) = decB K mi k := by
  unfold decB
  rw [if_pos hk]
  have a1 : K / 10 ^ (2 * k) % 10 < 10 := Nat.mod_lt _ (by decide)
  have a2 : K / 10 ^ (2 * k + 1) % 10 < 10 := Nat.mod_lt _ (by decide)
  have s := by8_self (K / 10 ^ (2 * k) % 10 + 16 * (K / 10 ^ (2 * k + 1) % 10)) (by omega)
  rw [← s]
  apply by8_congr
  intro j hj
  unfold decγ
  rw [if_pos (by omega), tb_two (by omega) hj]
  by_cases c : j < 4
  · rw [if_pos c, show (8 * k + j) / 4 = 2 * k by omega, show (8 * k + j) % 4 = j by omega]
  · rw [if_neg c, show (8 * k + j) / 4 = 2 * k + 1 by omega, show (8 * k + j) % 4 = j - 4 by omega]
theorem bad_loopB (s : St) : fr114 s (lpn b_MC_writeDecimals_64 (upf 10 0) (0, s)).2 ∧ ∀ k, k < 10 → gI (lpn b_MC_writeDecimals_64 (upf 10 0) (0, s)).2 114 k = nI (badB k) := by
  refine lpn_P (b := b_MC_writeDecimals_64) (fun i t => t.1 = nI i ∧ fr114 s t.2 ∧ ∀ k, k < i → gI t.2 114 k = nI (badB k)) (fun y => fr114 s y.2 ∧ ∀ k, k < 10 → gI y.2 114 k = nI (badB k)) 10 ?_ ?_ ?_ ?_
  · intro i t hi ⟨t1, t2, t3⟩
    obtain ⟨a, s1⟩ := t
    simp only at t1 t2 t3
    subst t1
    have c1 : ¬ (10 : Int32) ≤ nI i := nI_ge (b := 10) (by omega) (by decide)
    have c7 : ((7 : Int32) ≤ nI i) ↔ 7 ≤ i := nI_leI (a := 7) (by decide) (by omega)
    have e7 : (nI i = 7) ↔ i = 7 := nI_eq (b := 7) (by omega) (by decide)
    have jq : jat (nI i) = i := nI_clamp (by omega)
    have v : (if 7 ≤ i then if i = 7 then (192 : Int32) else 255 else 0) = nI (badB i) := by
      unfold badB
      by_cases q1 : i < 7
      · rw [if_neg (by omega), if_pos q1]
        rfl
      · rw [if_pos (by omega), if_neg q1]
        by_cases q2 : i = 7
        · rw [if_pos q2, if_pos q2]
          rfl
        · rw [if_neg q2, if_neg q2]
          rfl
    refine ⟨(nI (i + 1), sI s1 114 i (nI (badB i))), ?_, rfl, fr114_trans t2 (fr114_I _ _ _), fun k hk => ?_⟩
    · unfold b_MC_writeDecimals_64
      simp only [c1, if_false, c7, e7, v, jq, nI_1]
    · show gI (sI s1 114 i (nI (badB i))) 114 k = _
      rw [gI_sI, if_pos rfl]
      by_cases q : k = i
      · rw [if_pos q, q]
      · rw [if_neg q]
        exact t3 k (by omega)
  · intro t ⟨t1, t2, t3⟩
    obtain ⟨a, s1⟩ := t
    simp only at t1 t2 t3
    subst t1
    refine ⟨(nI 10, s1), ?_, t2, t3⟩
    have c1 : (10 : Int32) ≤ nI 10 := by decide
    unfold b_MC_writeDecimals_64
    simp only [c1, if_true]
  · decide
  · exact ⟨rfl, fr114_refl s, fun k hk => by omega⟩
theorem badB_lt (k : Nat) : badB k < 256 := by
  unfold badB
  split
  · decide
  · split <;> decide
theorem writeDecimals_B {τ : St} {w : Nat} {A : Re} (h : CIn τ A w) (hb : Byt τ) (hw : w < 65536) : WOuC τ (f_MC_writeDecimals τ) w ((decW A).1, 10, (decW A).2) := by
  obtain ⟨h1, h2, h3, h4, h5⟩ := h
  have bF := uN_lt2 (gJ τ 41 45)
  rw [h3] at bF
  have bad : ∀ ρ : St, frC τ ρ → ¬ (wBig A = false ∧ wK 4 A < 1000000000000000000) → gI ρ 38 45 = nI w → WOuC τ (if f_MC_masked ρ 1 = true then (1, (lpn b_MC_writeDecimals_64 (upf 10 0) (0, ρ)).2) else (1, ρ)) w ((decW A).1, 10, (decW A).2) := fun ρ f q g38 => by
    obtain ⟨k1, k2⟩ := bad_loopB ρ
    rw [dec_bad q]
    generalize (lpn b_MC_writeDecimals_64 (upf 10 0) (0, ρ)).2 = ν at *
    have e : (if f_MC_masked ρ 1 = true then ((1 : Int32), ν) else (1, ρ)) = (1, if f_MC_masked ρ 1 = true then ν else ρ) := by split <;> rfl
    rw [e]
    exact bad_B f (Byt_114 hb f) g38 hw k1 (fun k hk => ⟨badB k, badB_lt k, k2 k hk⟩) k2
  have e4 : f_MC_round τ 0 4 = f_MC_round τ 0 (nI 4) := congrArg (fun z => f_MC_round τ 0 z) (show (4 : Int32) = nI 4 from rfl)
  unfold f_MC_writeDecimals
  rw [isNum_B h2 h4, e4]
  try dsimp only
  by_cases p : A.2.1 = 32767
  · rw [decide_eq_true p]
    simp only [Bool.not_true, Bool.false_eq_true, if_false]
    refine bad τ (frC_refl τ) (fun q => ?_) h5
    have := q.1
    unfold wBig at this
    rw [decide_eq_true p] at this
    simp at this
  · rw [decide_eq_false p]
    simp only [Bool.not_false, if_true]
    obtain ⟨r1, r2, r3, r4⟩ := round_B (Q := 0) (q := 0) (way := 4) h1 h2 h4 h3 rfl (by decide) (by decide)
    have ex : RQ A.2.2 false (unitN A.2.1) 0 = wX A := rfl
    rw [ex] at r2 r3 r4
    generalize f_MC_round τ 0 (nI 4) = s at *
    have g39 : gZ s 39 45 = A.1 := by rw [r1.2.2 39 45 (by decide) (by decide)]; exact h1
    have g38 : gI s 38 45 = nI w := by rw [r1.1 38 45]; exact h5
    have b114 := Byt_114 hb (frC_42 r1)
    have wb : wBig A = decide (18446744073709551616 ≤ (wX A).1) := by
      unfold wBig
      rw [decide_eq_false p, Bool.false_or, big_B]
    rw [r2, fits_C]
    by_cases g : 18446744073709551616 ≤ (wX A).1
    · rw [decide_eq_true g]
      simp only [if_true, Bool.false_eq_true, if_false]
      refine bad s (frC_42 r1) (fun q => ?_) g38
      have := q.1
      rw [wb, decide_eq_true g] at this
      cases this
    · rw [decide_eq_false g] at wb ⊢
      have kk := wK_wX (way := 4) bF g r4
      rw [kk]
      by_cases c : wK 4 A < 1000000000000000000
      · rw [decide_eq_true c]
        simp only [Bool.false_eq_true, if_false, if_true]
        obtain ⟨β, hβ⟩ := BA_Byt b114
        obtain ⟨l1, l2⟩ := dec_loopB hβ kk c
        have l3 := l1.2.2
        generalize (lpn b_MC_writeDecimals_111 (upf 18 0) (0, s)).2 = μ at *
        have g39' : gZ μ 39 45 = A.1 := by rw [l3 39 45]; exact g39
        have j9 : jat 9 = 9 := by decide
        rw [g39', j9]
        have g44 : gZ (sI μ 114 9 (if A.1 = true then 128 else 0)) 44 45 = lossy (wX A) := by
          show gZ μ 44 45 = _
          rw [l3 44 45]
          exact r3
        rw [g44, (los_n (lossy (wX A))).1]
        have by9 : ∀ k, k < 10 → gI (sI μ 114 9 (if A.1 = true then 128 else 0)) 114 k = nI (decB (wK 4 A) A.1 k) ∧ decB (wK 4 A) A.1 k < 256 := fun k hk => by
          rw [gI_sI, if_pos rfl]
          by_cases q : k = 9
          · subst q
            rw [if_pos rfl]
            unfold decB
            rw [if_neg (show ¬ 9 < 9 by decide)]
            cases A.1 <;> decide
          · rw [if_neg q, l2 k hk, dec_by (mi := A.1) (show k < 9 by omega)]
            refine ⟨rfl, ?_⟩
            rw [← dec_by (β := β) (show k < 9 by omega)]
            exact by8_lt _
        rw [dec_ok ⟨wb, c⟩]
        exact ⟨rfl, frD_trans (frD_C (frC_42 r1)) (frD_trans (frD_E l1) (frD_114 (fr114_I _ _ _))), fun k hk => ⟨_, (by9 k hk).2, (by9 k hk).1⟩, (los_n (lossy (wX A))).2, fun _ k hk => (by9 k hk).1⟩
      · rw [decide_eq_false c]
        simp only [Bool.false_eq_true, if_false]
        exact bad s (frC_42 r1) (fun q => c q.2) g38
