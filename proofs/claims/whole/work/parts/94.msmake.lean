/-! what the reference's steps make -/
theorem or_flag : ∀ t, t < 64 → ∀ i, i < 6 → (if t / 2 ^ i % 2 = 1 then t else t + 2 ^ i) = t ||| 2 ^ i := by decide
theorem tell_S {τ : St} {w t : Nat} (hwd : gI τ 27 42 = nI w) (hw : w < 65536) (ht : gI τ 28 42 = nI t) (htt : t < 64) (i : Nat) (hi : i < 6) : f_MS_tell τ (nI (2 ^ i)) = (decide (w / 2 ^ i % 2 = 1), sI τ 28 42 (nI (t ||| 2 ^ i))) := by
  have p : (2 : Nat) ^ i ≤ 2 ^ 5 := Nat.pow_le_pow_right (by decide) (by omega)
  have p0 := pow_pos2 i
  have r1 : jrem (nI t / nI (2 ^ i)) 2 = nI (t / 2 ^ i % 2) := rem_M (by omega) (2 ^ i) 2 p0 (by omega) (by decide) (by decide)
  have r2 : jrem (nI w / nI (2 ^ i)) 2 = nI (w / 2 ^ i % 2) := rem_M hw (2 ^ i) 2 p0 (by omega) (by decide) (by decide)
  have e1 : (nI (t / 2 ^ i % 2) = 1) ↔ t / 2 ^ i % 2 = 1 := nI_eq (b := 1) (by omega) (by decide)
  have e2 : (nI (w / 2 ^ i % 2) = 1) ↔ w / 2 ^ i % 2 = 1 := nI_eq (b := 1) (by omega) (by decide)
  have fl := or_flag t htt i hi
  have tt : (if t / 2 ^ i % 2 = 1 then nI t else nI t + nI (2 ^ i)) = nI (t ||| 2 ^ i) := by
    rw [← fl]
    split
    · rfl
    · exact nI_add _ _
  have g27 : ∀ v, gI (sI τ 28 42 v) 27 42 = nI w := fun v => hwd
  unfold f_MS_tell f_MS_masked
  simp only [ht, r1, e1, tt, g27, r2, e2]
  by_cases q : w / 2 ^ i % 2 = 1 <;> simp [q]
theorem masked_S {τ : St} {w : Nat} (hwd : gI τ 27 42 = nI w) (hw : w < 65536) (i : Nat) (hi : i < 16) : f_MS_masked τ (nI (2 ^ i)) = decide (w / 2 ^ i % 2 = 1) := by
  have p : (2 : Nat) ^ i ≤ 2 ^ 15 := Nat.pow_le_pow_right (by decide) (by omega)
  have p0 := pow_pos2 i
  have r2 : jrem (nI w / nI (2 ^ i)) 2 = nI (w / 2 ^ i % 2) := rem_M hw (2 ^ i) 2 p0 (by omega) (by decide) (by decide)
  have e2 : (nI (w / 2 ^ i % 2) = 1) ↔ w / 2 ^ i % 2 = 1 := nI_eq (b := 1) (by omega) (by decide)
  unfold f_MS_masked
  simp only [hwd, r2, e2]
  by_cases q : w / 2 ^ i % 2 = 1 <;> simp [q]
def sgT (neg : Bool) : Int32 := if neg = true then 32768 else 0
def mss (τ : St) (b : Bool) (T : Nat) (top : Int32) (F : Int64) : St := f_MS_answer (sI (sZ τ 36 42 b) 28 42 (nI T)) top F
theorem i32_aa (a b c : Int32) : a + b + c = a + (b + c) := Int32.add_assoc a b c
theorem i32_as (a b c : Int32) : a + b - c = a + (b - c) := by rw [Int32.sub_eq_add_neg, Int32.sub_eq_add_neg, Int32.add_assoc]
theorem mss_id {τ : St} {t : Nat} (ht : gI τ 28 42 = nI t) (top : Int32) (F : Int64) : f_MS_answer τ top F = mss τ (gZ τ 36 42) t top F := by
  unfold mss
  congr 1
  rw [← ht]
  apply St_ext <;> intro k x <;> simp only [gI_sI, gI_sZ, gJ_sI, gJ_sZ, gZ_sI, gZ_sZ] <;> grind
theorem mss_28 {τ : St} {v : Nat} (top : Int32) (F : Int64) : f_MS_answer (sI τ 28 42 (nI v)) top F = mss τ (gZ τ 36 42) v top F := by
  unfold mss
  congr 1
  apply St_ext <;> intro k x <;> simp only [gI_sI, gI_sZ, gJ_sI, gJ_sZ, gZ_sI, gZ_sZ] <;> grind
/-- doubled up to the least unit -/
theorem up_loop (v0 : Int64) (n0 : Int32) (d : Nat) (hd : d < 64) (hn : n0.toInt = -(d : Int)) (hv : uN v0 * 2 ^ d < 2 ^ 64) : uN (lpn b_MS_make_109 (upf 0 n0) (n0, v0)).2 = uN v0 * 2 ^ d := by
  have e0 : (0 : Int32).toInt = 0 := rfl
  refine lpn_P (b := b_MS_make_109) (fun i t => t.1.toInt = -(d : Int) + i ∧ uN t.2 = uN v0 * 2 ^ i) (fun y => uN y.2 = uN v0 * 2 ^ d) d ?_ ?_ ?_ ⟨by simp [hn], by simp⟩
  · intro i t hi ⟨t1, t2⟩
    obtain ⟨a, b⟩ := t
    simp only at t1 t2
    have c : ¬ (0 : Int32) ≤ a := fun q => by
      have := Int32.le_iff_toInt_le.mp q
      omega
    refine ⟨(a + 1, 2 * b), ?_, ?_, ?_⟩
    · unfold b_MS_make_109
      simp only [c, if_false]
    · have one : (1 : Int32).toInt = 1 := by decide
      show (a + 1).toInt = _
      rw [i32_addT (by omega) (by omega), t1, one]
      omega
    · show uN (2 * b) = _
      have le : uN v0 * 2 ^ (i + 1) ≤ uN v0 * 2 ^ d := Nat.mul_le_mul_left _ (Nat.pow_le_pow_right (by decide) (by omega))
      have e : uN v0 * 2 ^ (i + 1) = 2 * (uN v0 * 2 ^ i) := by rw [Nat.pow_succ, ← Nat.mul_assoc, Nat.mul_comm]
      rw [dbl_two, t2, e]
      rw [e] at le
      omega
  · intro t ⟨t1, t2⟩
    obtain ⟨a, b⟩ := t
    simp only at t1 t2
    refine ⟨(a, b), ?_, t2⟩
    have c : (0 : Int32) ≤ a := Int32.le_iff_toInt_le.mpr (by omega)
    unfold b_MS_make_109
    simp only [c, if_true]
  · unfold upf
    rw [e0, hn]
    omega
theorem b173_S {τ : St} {w t : Nat} {k : Int} {V : Int32} {g : Int64} {neg : Bool} (hwd : gI τ 27 42 = nI w) (hw : w < 65536) (ht : gI τ 28 42 = nI t) (htt : t < 64) (hk : V.toInt = k) (hkb : -38000 ≤ k ∧ k ≤ 38000) :
    ∃ (T : Nat) (pw : Int32) (F : Int64), f_MS_make_b173 τ neg (sgT neg) (V, g) = mss τ (gZ τ 36 42) (t ||| T) (sgT neg + pw) F ∧
     ((k < -16382 ∧ T = 16 ∧ pw.toInt = k + 16383 + 24576 ∧ F = g) ∨ (¬ k < -16382 ∧ k + 16383 < 32767 ∧ T = 0 ∧ pw.toInt = k + 16383 ∧ F = g) ∨
      (¬ k < -16382 ∧ ¬ k + 16383 < 32767 ∧ w / 8 % 2 = 1 ∧ T = 40 ∧ pw.toInt = (if infS (wayOf w) neg then 32767 else 32766) ∧ uN F = (if infS (wayOf w) neg then 2 ^ 63 else 2 ^ 64 - 1)) ∨
      (¬ k < -16382 ∧ ¬ k + 16383 < 32767 ∧ ¬ w / 8 % 2 = 1 ∧ T = 8 ∧ pw.toInt = k + 16383 - 24576 ∧ F = g)) := by
  have cT := le_m16382 hk
  have e1 : (16383 : Int32).toInt = 16383 := by decide
  have e2 : (24576 : Int32).toInt = 24576 := by decide
  have v1 : (V + 16383).toInt = k + 16383 := by rw [i32_addT (by omega) (by omega), hk, e1]
  have c16 : ((16384 : Int32) ≤ V) ↔ ¬ k + 16383 < 32767 := by
    rw [Int32.le_iff_toInt_le, hk, show (16384 : Int32).toInt = 16384 by decide]
    omega
  unfold f_MS_make_b173
  simp only []
  by_cases h1 : k < -16382
  · have c : ¬ (-16382 : Int32) ≤ V := fun q => (cT.mp q) h1
    have tl := tell_S hwd hw ht htt 4 (by decide)
    have n16 : nI (2 ^ 4) = (16 : Int32) := rfl
    rw [n16, show (2 : Nat) ^ 4 = 16 from rfl] at tl
    simp only [c, if_false, tl]
    refine ⟨16, V + 16383 + 24576, g, ?_, Or.inl ⟨h1, rfl, ?_, rfl⟩⟩
    · rw [mss_28, show sgT neg + V + 16383 + 24576 = sgT neg + (V + 16383 + 24576) by simp only [Int32.add_assoc]]
    · rw [i32_addT (by omega) (by omega), v1, e2]
  · have c : (-16382 : Int32) ≤ V := cT.mpr h1
    by_cases h2 : k + 16383 < 32767
    · have c2 : ¬ (16384 : Int32) ≤ V := fun q => (c16.mp q) h2
      simp only [c, if_true, c2, if_false]
      refine ⟨0, V + 16383, g, ?_, Or.inr (Or.inl ⟨h1, h2, rfl, v1, rfl⟩)⟩
      rw [mss_id ht, i32_aa, Nat.or_zero]
    · have c2 : (16384 : Int32) ≤ V := c16.mpr h2
      have mk := masked_S hwd hw 3 (by decide)
      have n8 : nI (2 ^ 3) = (8 : Int32) := rfl
      rw [n8] at mk
      have tl := tell_S hwd hw ht htt 3 (by decide)
      rw [n8] at tl
      simp only [c, c2, if_true, mk, tl]
      by_cases h3 : w / 8 % 2 = 1
      · have h3' : decide (w / 2 ^ 3 % 2 = 1) = true := decide_eq_true h3
        have w2 : gI (sI τ 28 42 (nI (t ||| 2 ^ 3))) 27 42 = nI w := hwd
        have t2 : gI (sI τ 28 42 (nI (t ||| 2 ^ 3))) 28 42 = nI (t ||| 2 ^ 3) := by simp [gI_sI]
        have lt2 : t ||| 2 ^ 3 < 64 := or_lt64 htt (by decide)
        have tl2 := tell_S w2 hw t2 lt2 5 (by decide)
        have n32 : nI (2 ^ 5) = (32 : Int32) := rfl
        rw [n32, sI_sI] at tl2
        have w3 : ∀ v, gI (sI τ 28 42 v) 27 42 = nI w := fun v => hwd
        have wy : jrem (nI w / 1024) 4 = nI (wayOf w) := rem_M hw 1024 4 (by decide) (by decide) (by decide) (by decide)
        unfold f_MS_way
        simp only [h3', if_true, tl2, w3, wy, inf_M]
        refine ⟨40, if infS (wayOf w) neg = true then 32767 else 32766, if infS (wayOf w) neg = true then -9223372036854775808 else -1, ?_, Or.inr (Or.inr (Or.inl ⟨h1, h2, h3, rfl, ?_, ?_⟩))⟩
        · rw [mss_28, Nat.or_assoc, show (2 : Nat) ^ 3 ||| 2 ^ 5 = 40 from rfl]
        · split <;> rfl
        · split <;> rfl
      · have h3' : decide (w / 2 ^ 3 % 2 = 1) = false := decide_eq_false h3
        simp only [h3', Bool.false_eq_true, if_false]
        refine ⟨8, V + 16383 - 24576, g, ?_, Or.inr (Or.inr (Or.inr ⟨h1, h2, h3, rfl, ?_, rfl⟩))⟩
        · rw [mss_28, i32_aa, i32_as]
        · rw [i32_subT (by omega) (by omega), v1, e2]
theorem SPz_log {N t : Nat} (h : Lg N t) (w n : Nat) (m s : Bool) (e : Int) : SPz w n m N s e = SP w n m (e + t) (RQ N s e) := by
  have h0 : N ≠ 0 := by
    have := h.1
    have := pow_pos2 t
    omega
  unfold SPz
  rw [if_neg h0, Lg_log2 h]
theorem q63 {U : Int32} {u : Int} (hU : U.toInt = u) (hub : -37000 ≤ u ∧ u ≤ 37000) : (U + 63).toInt = u + 63 := by
  have e63 : (63 : Int32).toInt = 63 := by decide
  rw [i32_addT (by omega) (by omega), hU, e63]
theorem q45 {U : Int32} {u : Int} (hU : U.toInt = u) (hub : -37000 ≤ u ∧ u ≤ 37000) : ((-16445 : Int32) - U).toInt = -16445 - u := by
  have e45 : (-16445 : Int32).toInt = -16445 := by decide
  rw [i32_subT (by omega) (by omega), e45, hU]
theorem ms_tiny {τ : St} {w j : Nat} {f : Int64} {v : Int32} {u k : Int} {neg : Bool} (hwd : gI τ 27 42 = nI w) (hw : w < 65536) (v4 : v.toInt = -16445 - u) (hub : -37000 ≤ u ∧ u ≤ 37000) (lg : Lg (uN f) (63 - j)) (j1 : j < 64) (hkk : u + ((63 - j : Nat) : Int) = k) (hk : k < -16382) :
    ∃ (X : Int64) (b : Bool), (if v ≤ 0 then (f, sZ τ 36 42 false) else ((f_MS_rounded (sZ τ 36 42 false) f v neg).1, (f_MS_rounded (sZ τ 36 42 false) f v neg).2)) = (X, sZ τ 36 42 b) ∧ uN (lpn b_MS_make_109 (upf 0 v) (v, X)).2 = rnd (wayOf w) neg (RQ (uN f) false u (-16445)) ∧ b = lossy (RQ (uN f) false u (-16445)) := by
  have bf := uN_lt2 f
  by_cases c : u ≤ -16445
  · obtain ⟨n, hn⟩ : ∃ n : Nat, (-16445 : Int) = u + n := ⟨(-16445 - u).toNat, by omega⟩
    have x := RQ_ge (N := uN f) (s := false) n hn
    rw [x]
    by_cases n0 : n = 0
    · subst n0
      have vz : v ≤ 0 := Int32.le_iff_toInt_le.mpr (by rw [v4]; show -16445 - u ≤ 0; omega)
      have v0 : v.toInt = -((0 : Nat) : Int) := by omega
      have l0 := up_loop f v 0 (by decide) v0 (by simpa using bf)
      have hz : hb (uN f) 0 = false := by unfold hb; simp
      have rz : rsb (uN f) 0 false = false := by unfold rsb; simp [Nat.mod_one]
      refine ⟨f, false, by rw [if_pos vz], ?_, ?_⟩
      · rw [l0, hz, rz]
        unfold rnd upS lossy
        simp
      · unfold lossy
        rw [hz, rz]
        rfl
    · have vn : v = nI n := by
        apply Int32.toInt_inj.mp
        rw [v4, nI_toInt (by omega)]
        omega
      have vz : ¬ v ≤ 0 := by rw [vn]; exact nI_nle (by omega) (by omega)
      obtain ⟨W, r1, r2⟩ := rounded_M (τ := sZ τ 36 42 false) (f := f) (neg := neg) (n := n) hwd hw (by omega) (by omega) _ rfl
      rw [← vn, sZ_sZ] at r1
      have zl : lpn b_MS_make_109 (upf 0 v) (v, W) = (v, W) := by
        have : ∃ m, upf 0 v = m + 1 := ⟨_, rfl⟩
        obtain ⟨m, hm⟩ := this
        have c0 : (0 : Int32) ≤ v := by rw [vn]; exact nI_pos' (by omega)
        rw [hm]
        simp only [lpn, b_MS_make_109, c0, if_true]
      refine ⟨W, _, by rw [if_neg vz, r1], ?_, rfl⟩
      rw [zl]
      exact r2
  · obtain ⟨d, hd⟩ : ∃ d : Nat, u = -16445 + d := ⟨(u + 16445).toNat, by omega⟩
    have d0 : 0 < d := by omega
    have x := RQ_lt (N := uN f) (s := false) d hd d0
    rw [x]
    have vz : v ≤ 0 := Int32.le_iff_toInt_le.mpr (by rw [v4]; show -16445 - u ≤ 0; omega)
    have lt : uN f * 2 ^ d < 2 ^ 63 := by
      have := lg.2
      have e : 63 - j + 1 + d ≤ 63 := by omega
      have l2 : uN f * 2 ^ d < 2 ^ (63 - j + 1) * 2 ^ d := Nat.mul_lt_mul_of_pos_right this (pow_pos2 d)
      rw [← Nat.pow_add] at l2
      exact Nat.lt_of_lt_of_le l2 (Nat.pow_le_pow_right (by decide) e)
    have l0 := up_loop f v d (by omega) (by omega) (by omega)
    refine ⟨f, false, by rw [if_pos vz], ?_, rfl⟩
    rw [l0]
    unfold rnd upS lossy
    simp
theorem msmake_M {τ : St} {w t : Nat} {f : Int64} {U : Int32} {u : Int} {neg : Bool} (hwd : gI τ 27 42 = nI w) (hw : w < 65536) (ht : gI τ 28 42 = nI t) (htt : t < 64) (hU : U.toInt = u) (hub : -37000 ≤ u ∧ u ≤ 37000) (R : Nat × Int × Nat) (hR : R = SPz w 64 neg (uN f) false u) :
    ∃ (b : Bool) (pw : Int32) (F : Int64), f_MS_make τ neg f U = mss τ b (t ||| R.1) (sgT neg + pw) F ∧ pw.toInt = R.2.1 ∧ uN F = R.2.2 := by
  have sg0 : (if neg = true then (32768 : Int32) else 0) = sgT neg := rfl
  by_cases z : f = 0
  · have zu : uN f = 0 := uN_eq0.mp z
    have R0 : R = (0, 0, 0) := by
      rw [hR, zu]
      unfold SPz
      rw [if_pos rfl]
    refine ⟨gZ τ 36 42, 0, 0, ?_, ?_, ?_⟩
    · unfold f_MS_make
      rw [if_pos z, sg0, R0, mss_id ht]
      have e1 : sgT neg + 0 = sgT neg := Int32.add_zero _
      have e2 : t ||| 0 = t := Nat.or_zero t
      rw [e1, e2]
    · rw [R0]
      rfl
    · rw [R0]
      rfl
  · have h0 : uN f ≠ 0 := fun q => z (uN_eq0.mpr q)
    have bf := uN_lt2 f
    have v1 := q63 hU hub
    obtain ⟨g, V, j, l1, j1, g1, g2, V1⟩ := make_loop f (U + 63) (by omega) h0
    rw [v1] at V1
    have bg := uN_lt2 g
    have lg : Lg (uN f) (63 - j) := by
      apply Lg_of_mul (j := j)
      rw [← g1]
      have e : 63 - j + j = 63 := by omega
      rw [e]
      exact ⟨g2, bg⟩
    have hk : V.toInt = u + ((63 - j : Nat) : Int) := by omega
    rw [SPz_log lg] at hR
    generalize hkk : u + ((63 - j : Nat) : Int) = k at *
    have m16 := masked_S hwd hw 4 (by decide)
    have n16 : nI (2 ^ 4) = (16 : Int32) := rfl
    rw [n16] at m16
    have cT := le_m16382 hk
    by_cases tm : k < -16382 ∧ w / 16 % 2 = 1
    · -- below the least power, and masked
      have S := hR.trans (SP_1 tm.1 tm.2 _ rfl)
      have q64 : (-16381 : Int) - (64 : Nat) = -16445 := by omega
      rw [q64] at S
      have c3 : ¬ ((-16382 : Int32) ≤ V) := fun q => (cT.mp q) tm.1
      have mt : decide (w / 2 ^ 4 % 2 = 1) = true := decide_eq_true tm.2
      have v4 := q45 hU hub
      generalize hv4 : (-16445 : Int32) - U = v at *
      obtain ⟨X, b, hX, hX2, hlo⟩ := ms_tiny (neg := neg) hwd hw v4 hub lg j1 hkk tm.1
      generalize RQ (uN f) false u (-16445) = x at *
      have gb : gZ (sZ τ 36 42 b) 36 42 = b := by simp [gZ_sZ]
      have wb : gI (sZ τ 36 42 b) 27 42 = nI w := hwd
      have tb : gI (sZ τ 36 42 b) 28 42 = nI t := ht
      have t1 := tell_S wb hw tb htt 4 (by decide)
      rw [n16, show (2 : Nat) ^ 4 = 16 from rfl] at t1
      have wb2 : gI (sI (sZ τ 36 42 b) 28 42 (nI (t ||| 16))) 27 42 = nI w := hwd
      have tb2 : gI (sI (sZ τ 36 42 b) 28 42 (nI (t ||| 16))) 28 42 = nI (t ||| 16) := by simp [gI_sI]
      have t2 := tell_S wb2 hw tb2 (or_lt64 htt (by decide)) 5 (by decide)
      have n32 : nI (2 ^ 5) = (32 : Int32) := rfl
      rw [n32, show (2 : Nat) ^ 5 = 32 from rfl, sI_sI] at t2
      generalize hL : lpn b_MS_make_109 (upf 0 v) (v, X) = L at *
      have R1 : R.1 = (if lossy x then 48 else 0) := by rw [S]
      refine ⟨b, bI (if 0 ≤ L.2 then false else true), L.2, ?_, ?_, ?_⟩
      · unfold f_MS_make
        simp only [z, if_false, l1, c3, m16, mt, if_true, hv4, hX, hL, gb, t1, t2, sg0]
        rw [R1, ← hlo]
        unfold mss
        cases b with
        | true =>
          simp only [if_true]
          rw [Nat.or_assoc]
          rfl
        | false =>
          simp only [Bool.false_eq_true, if_false]
          congr 1
          rw [Nat.or_zero, ← tb]
          apply St_ext <;> intro k x <;> simp only [gI_sI, gI_sZ, gJ_sI, gJ_sZ, gZ_sI, gZ_sZ] <;> grind
      · rw [S]
        have p64 : (2 : Nat) ^ (64 - 64) = 1 := rfl
        show (bI (if 0 ≤ L.2 then false else true)).toInt = (if 2 ^ 63 ≤ rnd (wayOf w) neg x * 2 ^ (64 - 64) then 1 else 0)
        rw [p64, Nat.mul_one, ← hX2]
        by_cases c : 0 ≤ L.2
        · have := uN_nn.mp c
          rw [if_pos c, if_neg (by omega)]
          rfl
        · have : ¬ uN L.2 < 9223372036854775808 := fun q => c (uN_nn.mpr q)
          rw [if_neg c, if_pos (by omega)]
          rfl
      · rw [S, hX2]
        show _ = rnd (wayOf w) neg x * 2 ^ (64 - 64)
        simp
    · -- all others: nothing is rounded
      have q64 : RQ (uN f) false u (k + 1 - (64 : Nat)) = (uN g, false, false) := by
        by_cases c : j = 0
        · subst c
          have hh := RQ_ge (N := uN f) (s := false) (e := u) (q := k + 1 - (64 : Nat)) 0 (by omega)
          rw [hh]
          have hz : hb (uN f) 0 = false := by unfold hb; simp
          have rz : rsb (uN f) 0 false = false := by unfold rsb; simp [Nat.mod_one]
          rw [hz, rz, g1]
          simp
        · have hh := RQ_lt (N := uN f) (s := false) (e := u) (q := k + 1 - (64 : Nat)) j (by omega) (by omega)
          rw [hh, g1]
      have rn : rnd (wayOf w) neg (uN g, false, false) = uN g := by
        unfold rnd upS lossy
        simp
      have ly : lossy (uN g, false, false) = false := rfl
      have ng : ¬ uN g = 2 ^ 64 := by omega
      have p64 : uN g * 2 ^ (64 - 64) = uN g := by simp
      obtain ⟨T, pw, F, b1, b2⟩ := b173_S (g := g) (neg := neg) hwd hw ht htt hk ⟨by omega, by omega⟩
      have mk : f_MS_make τ neg f U = f_MS_make_b173 τ neg (sgT neg) (V, g) := by
        unfold f_MS_make
        by_cases h1 : k < -16382
        · have c3 : ¬ ((-16382 : Int32) ≤ V) := fun q => (cT.mp q) h1
          have mf : decide (w / 2 ^ 4 % 2 = 1) = false := decide_eq_false (fun q => tm ⟨h1, q⟩)
          simp only [z, if_false, l1, c3, m16, mf, Bool.false_eq_true, sg0]
        · have c3 : ((-16382 : Int32) ≤ V) := cT.mpr h1
          simp only [z, if_false, l1, c3, if_true, sg0]
      rw [← mk] at b1
      refine ⟨gZ τ 36 42, pw, F, ?_, ?_⟩
      · rw [b1]
        congr 2
        rcases b2 with ⟨e1, e2, e3, e4⟩ | ⟨e0, e1, e2, e3, e4⟩ | ⟨e0, e1, e5, e2, e3, e4⟩ | ⟨e0, e1, e5, e2, e3, e4⟩
        · rw [hR.trans (SP_2 e1 (fun q => tm ⟨e1, q⟩) _ q64), ly, e2]
          rfl
        · rw [hR.trans (SP_3 e0 _ q64 (by rw [rn, if_neg ng]; omega)), ly, e2]
          rfl
        · rw [hR.trans (SP_4 e0 _ q64 (by rw [rn, if_neg ng]; omega) e5), e2]
        · rw [hR.trans (SP_5 e0 _ q64 (by rw [rn, if_neg ng]; omega) e5), ly, e2]
          rfl
      · rcases b2 with ⟨e1, e2, e3, e4⟩ | ⟨e0, e1, e2, e3, e4⟩ | ⟨e0, e1, e5, e2, e3, e4⟩ | ⟨e0, e1, e5, e2, e3, e4⟩
        · rw [hR.trans (SP_2 e1 (fun q => tm ⟨e1, q⟩) _ q64), rn, if_neg ng, if_neg ng, e3, e4, p64]
          exact ⟨by simp, rfl⟩
        · rw [hR.trans (SP_3 e0 _ q64 (by rw [rn, if_neg ng]; omega)), rn, if_neg ng, if_neg ng, e3, e4, p64]
          exact ⟨by simp, rfl⟩
        · rw [hR.trans (SP_4 e0 _ q64 (by rw [rn, if_neg ng]; omega) e5), e3, e4]
          refine ⟨rfl, ?_⟩
          split <;> rfl
        · rw [hR.trans (SP_5 e0 _ q64 (by rw [rn, if_neg ng]; omega) e5), rn, if_neg ng, if_neg ng, e3, e4, p64]
          exact ⟨by simp, rfl⟩
