/-! numbers written to memory -/
def endsW (w t : Nat) : Bool := endsN w t || (decide (t / 8 % 2 = 1) && decide (w / 8 % 2 = 0)) || (decide (t / 16 % 2 = 1) && decide (w / 16 % 2 = 0))
theorem endsW_tb (w t : Nat) : endsW w t = (endsN w t || (t.testBit 3 && !w.testBit 3) || (t.testBit 4 && !w.testBit 4)) := by
  unfold endsW
  rw [ntb, ntb, ntb, ntb]
  have e8 : (2 : Nat) ^ 3 = 8 := rfl
  have e16 : (2 : Nat) ^ 4 = 16 := rfl
  rw [e8, e16]
  rcases Nat.mod_two_eq_zero_or_one (w / 8) with z | z <;> rcases Nat.mod_two_eq_zero_or_one (w / 16) with y | y <;> rw [z, y] <;> simp
theorem endsW_or (w t T : Nat) : endsW w (t ||| T) = (endsW w t || endsW w T) := by
  rw [endsW_tb, endsW_tb, endsW_tb, endsN_or, Nat.testBit_or, Nat.testBit_or]
  cases endsN w t <;> cases endsN w T <;> cases t.testBit 3 <;> cases t.testBit 4 <;> cases T.testBit 3 <;> cases T.testBit 4 <;> cases w.testBit 3 <;> cases w.testBit 4 <;> rfl
theorem endsW_N {σ : St} {w t : Nat} (hs : gI σ 6 3 = nI w) (hw : w < 65536) (ht : gI σ 7 3 = nI t) (htt : t < 64) : f_Ctl_endsWriting σ = endsW w t := by
  have h := ends_gen (t := t) (w := w) (k := 5) (by omega) (by omega) (by decide)
  have c : ((nI t &&& (nI w ^^^ (-1))) &&& 31 = 0) ↔ endsW w t = false := by
    rw [show (31 : Int32) = nI (2 ^ 5 - 1) from rfl, h, endsW_tb, endsN_tb]
    constructor
    · intro q
      have q0 := q 0 (by decide)
      have q1 := q 1 (by decide)
      have q2 := q 2 (by decide)
      have q3 := q 3 (by decide)
      have q4 := q 4 (by decide)
      have f : ∀ a b : Bool, ¬ (a = true ∧ b = false) → (a && !b) = false := fun a b => by cases a <;> cases b <;> simp
      rw [f _ _ q0, f _ _ q1, f _ _ q2, f _ _ q3, f _ _ q4]
      rfl
    · intro q i hi ⟨a, b⟩
      rcases (show i = 0 ∨ i = 1 ∨ i = 2 ∨ i = 3 ∨ i = 4 by omega) with rfl | rfl | rfl | rfl | rfl <;> rw [a, b] at q <;> simp at q
  unfold f_Ctl_endsWriting
  simp only [hs, ht, c]
  cases endsW w t <;> rfl
def wX (A : Re) : Nat × Bool × Bool := RQ A.2.2 false (unitN A.2.1) 0
def wK (way : Nat) (A : Re) : Nat := rnd way A.1 (wX A)
def wBig (A : Re) : Bool := decide (A.2.1 = 32767) || (decide (A.2.2 ≠ 0) && decide (63 < expS A))
def whoW (w n : Nat) (A : Re) : Nat × Nat :=
  if wBig A = false ∧ (wK (wayOf w) A < 2 ^ (n - 1) ∨ (A.1 = true ∧ wK (wayOf w) A = 2 ^ (n - 1))) then ((if lossy (wX A) then 32 else 0), (if A.1 then 2 ^ n - wK (wayOf w) A else wK (wayOf w) A) % 2 ^ n)
  else (1, 2 ^ (n - 1))
def decB (K : Nat) (mi : Bool) : Nat → Nat := fun k => if k < 9 then K / 10 ^ (2 * k) % 10 + 16 * (K / 10 ^ (2 * k + 1) % 10) else if mi then 128 else 0
def badB : Nat → Nat := fun k => if k < 7 then 0 else if k = 7 then 192 else 255
def decW (A : Re) : Nat × (Nat → Nat) := if wBig A = false ∧ wK 4 A < 1000000000000000000 then ((if lossy (wX A) then 32 else 0), decB (wK 4 A) A.1) else (1, badB)
def sgW (d p : Nat) (mi : Bool) : Nat := if mi then 2 ^ (d + p - 1) else 0
def allW (d p : Nat) : Nat := (2 ^ p - 1) * 2 ^ (d - 1)
def undX (d p : Nat) (A : Re) : Nat × Bool × Bool := RQ A.2.2 false (unitN A.2.1) (3 - ((2 ^ (p - 1) : Nat) : Int) - d)
def norX (d : Nat) (A : Re) : Nat × Bool × Bool := RQ A.2.2 false (unitN A.2.1) (expS A + 1 - d)
def norP (w d p : Nat) (A : Re) : Nat := (expS A + ((2 ^ (p - 1) : Nat) : Int) - 2).toNat * 2 ^ (d - 1) + rnd (wayOf w) A.1 (norX d A)
def numW (w d p : Nat) (A : Re) : Nat × Nat :=
  if expS A < 2 - ((2 ^ (p - 1) : Nat) : Int) then ((if w / 16 % 2 = 1 then (if lossy (undX d p A) then 48 else 0) else 16), rnd (wayOf w) A.1 (undX d p A))
  else if expS A < ((2 ^ (p - 1) : Nat) : Int) ∧ norP w d p A < allW d p then ((if lossy (norX d A) then 32 else 0), norP w d p A)
  else ((if w / 8 % 2 = 1 then 40 else 8), if infS (wayOf w) A.1 then allW d p else allW d p - 1)
def upW (d : Nat) (A : Re) : Nat := A.2.2 / 2 ^ (64 - d) % 2 ^ (d - 1)
def floW (w d p : Nat) (A : Re) : Nat × Nat :=
  if isInf A.2.1 A.2.2 then (0, sgW d p A.1 + allW d p)
  else if isNil A.2.1 A.2.2 then (0, sgW d p A.1)
  else if isNan A.2.1 A.2.2 then (1, sgW d p A.1 + (allW d p + (if upW d A = 0 then 1 else upW d A)))
  else if isUnn A.2.1 A.2.2 then (1, sgW d p true + (allW d p + 2 ^ (d - 2)))
  else ((numW w d p A).1, sgW d p A.1 + (numW w d p A).2)
def vB (V : Nat) : Nat → Nat := fun k => V / 256 ^ k % 256
def writeS (w fm : Nat) (A : Re) : Nat × Nat × (Nat → Nat) :=
  if fm = 0 then ((whoW w 16 A).1, 2, vB (whoW w 16 A).2) else if fm = 1 then ((whoW w 32 A).1, 4, vB (whoW w 32 A).2) else if fm = 2 then ((whoW w 64 A).1, 8, vB (whoW w 64 A).2)
  else if fm = 3 then ((floW w 24 8 A).1, 4, vB (floW w 24 8 A).2) else if fm = 4 then ((floW w 53 11 A).1, 8, vB (floW w 53 11 A).2)
  else if fm = 5 then ((decW A).1, 10, (decW A).2)
  else (0, 10, vB (A.2.2 + 2 ^ 64 * topN A))
def newB (m : Nat → Nat) (n : Nat) (b : Nat → Nat) : Nat → Nat := fun k => if k < n then b k else m k
def frY (σ τ : St) : Prop := (∀ k x, k ≠ 7 → k ≠ 11 → k ≠ 100 → gI τ k x = gI σ k x) ∧ (∀ k x, k ≠ 8 → k ≠ 9 → k ≠ 12 → k ≠ 14 → gJ τ k x = gJ σ k x) ∧ (∀ k x, k ≠ 10 → k ≠ 13 → gZ τ k x = gZ σ k x)
theorem frY_refl (σ : St) : frY σ σ := ⟨fun _ _ _ _ _ => rfl, fun _ _ _ _ _ _ => rfl, fun _ _ _ _ => rfl⟩
theorem frY_trans {σ τ ρ : St} (h : frY σ τ) (g : frY τ ρ) : frY σ ρ := ⟨fun k x a b c => (g.1 k x a b c).trans (h.1 k x a b c), fun k x a b c d => (g.2.1 k x a b c d).trans (h.2.1 k x a b c d), fun k x a b => (g.2.2 k x a b).trans (h.2.2 k x a b)⟩
theorem frY_S {σ τ : St} (h : frS σ τ) : frY σ τ := ⟨fun k x _ b _ => h.1 k x b, h.2.1, h.2.2⟩
theorem frY_100 {σ τ : St} (h : fr100 σ τ) : frY σ τ := ⟨fun k x _ _ c => h.1 k x c, fun k x _ _ _ _ => h.2.1 k x, fun k x _ _ => h.2.2 k x⟩
theorem frY_tell (σ : St) (v : Int32) : frY σ (f_Ctl_tell σ v) := by
  refine ⟨fun k x a _ _ => ?_, fun _ _ _ _ _ _ => rfl, fun _ _ _ _ => rfl⟩
  unfold f_Ctl_tell
  rw [gI_sI, if_neg a]
theorem MB_S {σ τ : St} {m : Nat → Nat} (h : MB σ m) (f : frS σ τ) : MB τ m := fun k hk => by
  rw [f.1 100 k (by decide)]
  exact h k hk
theorem MB_tell {σ : St} {m : Nat → Nat} (h : MB σ m) (v : Int32) : MB (f_Ctl_tell σ v) m := fun k hk => h k hk
def WrC (σ τ : St) (w t : Nat) (m : Nat → Nat) (R : Nat × Nat × (Nat → Nat)) : Prop := frY σ τ ∧ gI τ 7 3 = nI (t ||| R.1) ∧ R.1 < 64 ∧ MB τ (if endsW w R.1 then m else newB m R.2.1 R.2.2)
theorem byte_mod (X n k : Nat) (h : k < n) : X % 256 ^ n / 256 ^ k % 256 = X / 256 ^ k % 256 := by
  rw [p256, p256, show X / 2 ^ (8 * k) % 256 = X / 2 ^ (8 * k) % 2 ^ 8 from rfl, show X % 2 ^ (8 * n) / 2 ^ (8 * k) % 256 = X % 2 ^ (8 * n) / 2 ^ (8 * k) % 2 ^ 8 from rfl]
  apply Nat.eq_of_testBit_eq
  intro i
  rw [Nat.testBit_mod_two_pow, Nat.testBit_mod_two_pow, Nat.testBit_div_two_pow, Nat.testBit_div_two_pow, Nat.testBit_mod_two_pow]
  by_cases c : i < 8
  · have c2 : i + 8 * k < 8 * n := by omega
    simp [c, c2]
  · simp [c]
theorem putm_v {m : Nat → Nat} {n X V : Nat} (h : X % 256 ^ n = V % 256 ^ n) : putm m 0 n X = newB m n (vB V) := by
  funext k
  unfold putm newB vB
  by_cases c : k < n
  · rw [if_pos ⟨by omega, by omega⟩, if_pos c, Nat.sub_zero, ← byte_mod X n k c, h, byte_mod V n k c]
  · rw [if_neg (by omega), if_neg c]
theorem put_at {σ : St} {m : Nat → Nat} (h : MB σ m) (f n : Nat) {F N : Int32} (hF : F = nI f) (hN : N = nI n) (v : Int64) (hn8 : n ≤ 8) (hf : f + n ≤ 94) : MB (f_Mem_put σ F N v) (putm m f n (uN v)) ∧ fr100 σ (f_Mem_put σ F N v) := by
  rw [hF, hN]
  exact put_C h f n v hn8 hf
theorem fin_W {σ ρ ν : St} {w t T n : Nat} {m b : Nat → Nat} (f : frY σ ρ) (hs : gI ρ 6 3 = nI w) (hw : w < 65536) (ht : gI ρ 7 3 = nI (t ||| T)) (htt : t < 64) (hT : T < 64) (hne : endsW w t = false) (hM : MB ρ m) (g : fr100 ρ ν) (hN : MB ν (newB m n b)) : WrC σ (if f_Ctl_endsWriting ρ = true then ρ else ν) w t m (T, n, b) := by
  rw [endsW_N hs hw ht (or_lt64 htt hT), endsW_or, hne, Bool.false_or]
  unfold WrC
  dsimp only
  cases endsW w T with
  | true =>
    rw [if_pos (rfl : true = true), if_pos (rfl : true = true)]
    exact ⟨f, ht, hT, hM⟩
  | false =>
    rw [if_neg Bool.false_ne_true, if_neg Bool.false_ne_true]
    exact ⟨frY_trans f (frY_100 g), (g.1 7 3 (by decide)).trans ht, hT, hN⟩
theorem put_W {ρ : St} {m : Nat → Nat} {n V : Nat} {v : Int64} (hM : MB ρ m) (hn : n ≤ 8) (hv : uN v % 256 ^ n = V % 256 ^ n) : fr100 ρ (f_Mem_put ρ 0 (nI n) v) ∧ MB (f_Mem_put ρ 0 (nI n) v) (newB m n (vB V)) := by
  obtain ⟨k1, k2⟩ := put_at hM 0 n (F := 0) (N := nI n) rfl rfl v hn (by omega)
  rw [putm_v hv] at k1
  exact ⟨k2, k1⟩
theorem fin_put {σ ρ : St} {w t T n V : Nat} {m : Nat → Nat} {v : Int64} (f : frY σ ρ) (hs : gI ρ 6 3 = nI w) (hw : w < 65536) (ht : gI ρ 7 3 = nI (t ||| T)) (htt : t < 64) (hT : T < 64) (hne : endsW w t = false) (hM : MB ρ m) (hn : n ≤ 8) (hv : uN v % 256 ^ n = V % 256 ^ n) : WrC σ (if f_Ctl_endsWriting ρ = true then ρ else f_Mem_put ρ 0 (nI n) v) w t m (T, n, vB V) := by
  obtain ⟨g, hN⟩ := put_W hM hn hv
  generalize f_Mem_put ρ 0 (nI n) v = ν at *
  exact fin_W f hs hw ht htt hT hne hM g hN
theorem Lg_log {F : Nat} (z : F ≠ 0) : Lg F F.log2 := ⟨(Nat.le_log2 z).mp (Nat.le_refl _), (Nat.log2_lt z).mp (Nat.lt_succ_self _)⟩
theorem big_B (A : Re) : decide (18446744073709551616 ≤ (wX A).1) = (decide (A.2.2 ≠ 0) && decide (63 < expS A)) := by
  by_cases z : A.2.2 = 0
  · have : wX A = (0, false, false) := by
      unfold wX
      rw [z]
      exact RQ_zero _ _
    rw [this]
    simp [z]
  · have xe : expS A = unitN A.2.1 + (A.2.2.log2 : Int) := rfl
    have e : (wX A).1 = shZ A.2.2 (0 - unitN A.2.1) := RQ_1 _ _ _ _
    rw [e]
    by_cases c : 63 < expS A
    · have l := shZ_Lg (Lg_log z) (n := (expS A + 1).toNat) (by omega)
      have e2 : (A.2.2.log2 : Int) + 1 - ((expS A + 1).toNat : Nat) = 0 - unitN A.2.1 := by omega
      rw [e2] at l
      have p : (2 : Nat) ^ 64 ≤ 2 ^ ((expS A + 1).toNat - 1) := Nat.pow_le_pow_right (by decide) (by omega)
      have p2 : 18446744073709551616 ≤ shZ A.2.2 (0 - unitN A.2.1) := Nat.le_trans p l.1
      rw [decide_eq_true p2, decide_eq_true z, decide_eq_true c]
      rfl
    · have l := shZ_lt (Lg_log z) (0 - unitN A.2.1) (n := 64) (by omega)
      have p2 : ¬ 18446744073709551616 ≤ shZ A.2.2 (0 - unitN A.2.1) := by
        have : (2 : Nat) ^ 64 = 18446744073709551616 := rfl
        omega
      rw [decide_eq_false p2, decide_eq_false c, Bool.and_false]
theorem upS_exact {way : Nat} {m : Bool} {x : Nat × Bool × Bool} (h1 : x.2.1 = false) (h2 : x.2.2 = false) : upS way m x = false := by
  unfold upS lossy
  rw [h1, h2]
  cases m <;> simp
theorem rnd64 {F : Nat} {e q : Int} {way : Nat} {m : Bool} (hF : F < 2 ^ 64) (h : ¬ 18446744073709551616 ≤ (RQ F false e q).1) : rnd way m (RQ F false e q) < 18446744073709551616 := by
  by_cases c : e ≤ q
  · obtain ⟨d, hd⟩ : ∃ d : Nat, q = e + d := ⟨(q - e).toNat, by omega⟩
    have r := rnd_le way m (RQ F false e q)
    by_cases z : d = 0
    · subst z
      have u : upS way m (RQ F false e q) = false := by
        apply upS_exact
        · rw [RQ_ge 0 hd]
          unfold hb
          simp
        · rw [RQ_ge 0 hd]
          unfold rsb
          simp [Nat.mod_one]
      unfold rnd
      rw [u]
      show (RQ F false e q).1 + 0 < _
      omega
    · have l : (RQ F false e q).1 < 2 ^ 63 := by
        rw [RQ_ge d hd]
        show F / 2 ^ d < 2 ^ 63
        rw [Nat.div_lt_iff_lt_mul (pow_pos2 d), ← Nat.pow_add]
        exact Nat.lt_of_lt_of_le hF (Nat.pow_le_pow_right (by decide) (by omega))
      have p63 : (2 : Nat) ^ 63 = 9223372036854775808 := rfl
      omega
  · obtain ⟨d, hd⟩ : ∃ d : Nat, e = q + d := ⟨(e - q).toNat, by omega⟩
    have u : upS way m (RQ F false e q) = false := by
      apply upS_exact <;> rw [RQ_lt d hd (by omega)]
    unfold rnd
    rw [u]
    show (RQ F false e q).1 + 0 < _
    omega
theorem Loaded_exp {σ : St} {A : Re} (hl : Loaded σ 9 A.2.2 (unitN A.2.1)) (z : A.2.2 ≠ 0) : (gI σ 11 9).toInt = expS A - 127 ∧ A.2.2.log2 < 64 := by
  rcases hl.2.2 with ⟨h1, h2, h3⟩ | ⟨h1, j, h2, h3, h4⟩
  · exact absurd h1 z
  · have b := uN_lt2 (gJ σ 8 9)
    rw [h3] at h1 b
    have lg := norm_log h2 h1 b
    have xe : expS A = unitN A.2.1 + (A.2.2.log2 : Int) := rfl
    omega
theorem round_L {σ : St} {A : Re} {q : Int} {pl way : Nat} (hl : Loaded σ 9 A.2.2 (unitN A.2.1)) (z : A.2.2 ≠ 0) (hway : way ≤ 4) (m : Bool) (hq : q = (gI σ 11 9).toInt + pl) (h64 : 64 ≤ pl) (hp : pl < 2 ^ 30) : ∃ K : Int64, f_Size_round σ 9 (nI pl) (nI way) m = sZ (sJ σ 12 9 K) 13 9 (lossy (RQ A.2.2 false (unitN A.2.1) q)) ∧ uN K = rnd way m (RQ A.2.2 false (unitN A.2.1) q) % 2 ^ 64 := by
  rcases hl.2.2 with ⟨h1, h2, h3⟩ | ⟨h1, j, h2, h3, h4⟩
  · exact absurd h1 z
  · obtain ⟨K, k1, k2⟩ := round_spec σ 9 pl way m h64 hp h1 hway _ rfl
    have exx : (uN (gJ σ 8 9) * 2 ^ 64 + uN (gJ σ 9 9)) = A.2.2 * 2 ^ (j + 64) := by
      rw [hl.1, show uN 0 = 0 from rfl, h3, Nat.add_zero, Nat.pow_add, Nat.mul_assoc]
    have x : ((uN (gJ σ 8 9) * 2 ^ 64 + uN (gJ σ 9 9)) / 2 ^ pl, hb (uN (gJ σ 8 9) * 2 ^ 64 + uN (gJ σ 9 9)) pl, rsb (uN (gJ σ 8 9) * 2 ^ 64 + uN (gJ σ 9 9)) pl (gZ σ 10 9)) = RQ A.2.2 false (unitN A.2.1) q := by
      rw [hl.2.1, ← RQ_ge (e := (gI σ 11 9).toInt) (q := q) pl hq, exx]
      have := RQ_scale A.2.2 false (unitN A.2.1) q (j + 64)
      have eu : unitN A.2.1 - ((j + 64 : Nat) : Int) = (gI σ 11 9).toInt := by omega
      rw [eu] at this
      exact this
    rw [x] at k1 k2
    exact ⟨K, k1, k2⟩
theorem who_ok {w n : Nat} {A : Re} (h : wBig A = false ∧ (wK (wayOf w) A < 2 ^ (n - 1) ∨ (A.1 = true ∧ wK (wayOf w) A = 2 ^ (n - 1)))) : whoW w n A = ((if lossy (wX A) then 32 else 0), (if A.1 then 2 ^ n - wK (wayOf w) A else wK (wayOf w) A) % 2 ^ n) := if_pos h
theorem who_bad {w n : Nat} {A : Re} (h : ¬ (wBig A = false ∧ (wK (wayOf w) A < 2 ^ (n - 1) ∨ (A.1 = true ∧ wK (wayOf w) A = 2 ^ (n - 1))))) : whoW w n A = (1, 2 ^ (n - 1)) := if_neg h
theorem big_yes {A : Re} (h : A.2.1 = 32767 ∨ (A.2.2 ≠ 0 ∧ 63 < expS A)) : wBig A = true := by
  unfold wBig
  rcases h with h | ⟨h1, h2⟩
  · rw [decide_eq_true h, Bool.true_or]
  · rw [decide_eq_true h1, decide_eq_true h2, Bool.and_true, Bool.or_true]
theorem big_no {A : Re} (h : ¬ A.2.1 = 32767) (h2 : A.2.2 = 0 ∨ ¬ 63 < expS A) : wBig A = false := by
  unfold wBig
  rw [decide_eq_false h, Bool.false_or]
  rcases h2 with h2 | h2
  · rw [decide_eq_false (fun q => q h2), Bool.false_and]
  · rw [decide_eq_false h2, Bool.and_false]
theorem toWhole_0 {σ : St} {a way : Nat} {A : Re} (ha : RealIs σ a A.1 A.2.1 A.2.2) (hl : Loaded σ 9 A.2.2 (unitN A.2.1)) (hway : way ≤ 4) (d1 : ¬ A.2.1 = 32767) (z : A.2.2 = 0) : wK way A = 0 ∧ ∃ K : Int64, f_Size_round σ 9 (-(gI σ 11 9)) (nI way) A.1 = sZ (sJ σ 12 9 K) 13 9 (lossy (wX A)) ∧ uN K = wK way A := by
  obtain ⟨z2, z3⟩ : gJ σ 8 9 = 0 ∧ (gI σ 11 9).toInt = -17000 := by
    rcases hl.2.2 with ⟨h1, h2, h3⟩ | ⟨h1, j, h2, h3, h4⟩
    · exact ⟨h2, h3⟩
    · exact absurd z ((Loaded_F hl).mpr h1)
  have ng : -(gI σ 11 9) = nI 17000 := neg_I (e := -17000) z3 (by decide) (by decide)
  have wx : wX A = (0, false, false) := by
    unfold wX
    rw [z]
    exact RQ_zero _ _
  obtain ⟨K, k1, k2⟩ := round_zero σ 9 17000 way A.1 (by decide) (by decide) z2 hl.1 hl.2.1 hway
  have wk : wK way A = 0 := by
    unfold wK rnd
    rw [wx, upS_exact rfl rfl]
    rfl
  refine ⟨wk, K, ?_, by rw [k2, wk]⟩
  rw [ng, k1, wx]
  rfl
theorem toWhole_C {σ : St} {a way : Nat} {A : Re} (ha : RealIs σ a A.1 A.2.1 A.2.2) (hl : Loaded σ 9 A.2.2 (unitN A.2.1)) (hway : way ≤ 4) : (wBig A = true ∧ f_Wr_roundToWhole σ a (nI way) = (false, σ)) ∨ (wBig A = false ∧ ∃ K : Int64, f_Wr_roundToWhole σ a (nI way) = (true, sZ (sJ σ 12 9 K) 13 9 (lossy (wX A))) ∧ uN K = wK way A) := by
  have er := unitN_rng ha.2.2.2
  have ex := exp_C hl ⟨by omega, by omega⟩
  have bF := uN_lt2 (gJ σ 17 a)
  rw [ha.2.2.1] at bF
  have c1 : (nI A.2.1 = 32767) ↔ A.2.1 = 32767 := nI_eq (b := 32767) (by have := ha.2.2.2; omega) (by decide)
  have c63 : (f_Size_exponent σ 9 ≤ 63) ↔ (if A.2.2 = 0 then -16873 else unitN A.2.1 + (A.2.2.log2 : Int)) ≤ 63 := by rw [Int32.le_iff_toInt_le, ex, show (63 : Int32).toInt = 63 by decide]
  unfold f_Wr_roundToWhole
  simp only [ha.2.1, c1, c63, ha.1]
  by_cases d1 : A.2.1 = 32767
  · left
    exact ⟨big_yes (Or.inl d1), by rw [if_pos d1]⟩
  · rw [if_neg d1]
    have xe : expS A = unitN A.2.1 + (A.2.2.log2 : Int) := rfl
    by_cases z : A.2.2 = 0
    · right
      obtain ⟨-, K, k1, k2⟩ := toWhole_0 ha hl hway d1 z
      refine ⟨big_no d1 (Or.inl z), K, ?_, k2⟩
      rw [if_pos (by rw [if_pos z]; decide), k1]
    · rw [if_neg z]
      by_cases c : 63 < expS A
      · left
        refine ⟨big_yes (Or.inr ⟨z, c⟩), ?_⟩
        rw [if_neg (by omega)]
      · right
        obtain ⟨lx, -⟩ := Loaded_exp hl z
        obtain ⟨pl, hpl⟩ : ∃ pl : Nat, (gI σ 11 9).toInt = -(pl : Int) := ⟨(-(gI σ 11 9).toInt).toNat, by omega⟩
        have ng := neg_I rfl hpl (by omega)
        obtain ⟨K, k1, k2⟩ := round_L (q := 0) (pl := pl) hl z hway A.1 (by omega) (by omega) (by omega)
        have x : RQ A.2.2 false (unitN A.2.1) 0 = wX A := rfl
        rw [x] at k1 k2
        have nb : ¬ 18446744073709551616 ≤ (wX A).1 := by
          have := big_B A
          rw [decide_eq_false c, Bool.and_false] at this
          exact of_decide_eq_false this
        have lt : rnd way A.1 (wX A) < 18446744073709551616 := rnd64 bF nb
        refine ⟨big_no d1 (Or.inr c), K, ?_, ?_⟩
        · rw [if_pos (by omega), ng, k1]
        · rw [k2]
          exact Nat.mod_eq_of_lt lt
theorem within_C {K v : Int64} {mi : Bool} {P : Nat} (h0 : 0 < P) (hP : P ≤ 9223372036854775808) (hv : uN v = 18446744073709551616 - P) : f_Wr_isWithin K mi v = decide (uN K < P ∨ (mi = true ∧ uN K = P)) := by
  have bk := uN_lt K
  have u1 : uN 1 = 1 := rfl
  have e1 : uN (-(v + 1)) = P - 1 := by
    rw [uN_negate, uN_add, hv, u1]
    omega
  have e2 : uN (-v) = P := by
    rw [uN_negate, hv]
    omega
  have c1 : (K < 0) ↔ 9223372036854775808 ≤ uN K := uN_neg
  have c2 : (K ≤ -(v + 1)) ↔ (9223372036854775808 ≤ uN K ∨ uN K ≤ P - 1) := by
    rw [Int64.le_iff_toInt_le, uN_int K, uN_int (-(v + 1)), e1]
    split <;> split <;> omega
  have c3 : (K = -v) ↔ uN K = P := by rw [uN_eq, e2]
  clear e1 e2 hv
  unfold f_Wr_isWithin f_Wr_isWithin_b15
  simp only [c1, c2, c3]
  clear c1 c2 c3
  generalize uN K = k at *
  by_cases q1 : k < P
  · rw [if_neg (show ¬ 9223372036854775808 ≤ k by omega), if_pos (show 9223372036854775808 ≤ k ∨ k ≤ P - 1 by omega), decide_eq_true (Or.inl q1)]
  · have fin : (if mi = true then if k = P then true else false else false) = decide (k < P ∨ (mi = true ∧ k = P)) := by
      cases mi <;> by_cases q3 : k = P <;> simp [q1, q3]
    by_cases q2 : 9223372036854775808 ≤ k
    · rw [if_pos q2]
      exact fin
    · rw [if_neg q2, if_neg (show ¬ (9223372036854775808 ≤ k ∨ k ≤ P - 1) by omega)]
      exact fin
theorem whole_v {n : Nat} (hn : n = 16 ∨ n = 32 ∨ n = 64) : uN (jlshl (-1) (8 * nI (n / 8) - 1)) = 18446744073709551616 - 2 ^ (n - 1) := by
  have u : uN (-1) = 18446744073709551615 := rfl
  rcases hn with rfl | rfl | rfl
  · rw [uN_jlshl (-1) 15 (by decide) (by decide), u]
  · rw [uN_jlshl (-1) 31 (by decide) (by decide), u]
  · rw [uN_jlshl (-1) 63 (by decide) (by decide), u]
theorem whole_bad {n : Nat} (hn : n = 16 ∨ n = 32 ∨ n = 64) : (18446744073709551616 - 2 ^ (n - 1)) % 2 ^ n = 2 ^ (n - 1) % 2 ^ n := by rcases hn with rfl | rfl | rfl <;> rfl
theorem whole_neg {n k : Nat} (hn : n = 16 ∨ n = 32 ∨ n = 64) (le : k ≤ 2 ^ (n - 1)) : (18446744073709551616 - k) % 18446744073709551616 % 2 ^ n = (2 ^ n - k) % 2 ^ n % 2 ^ n := by
  rcases hn with rfl | rfl | rfl
  · have e : (2 : Nat) ^ 16 = 65536 := rfl
    have e2 : (2 : Nat) ^ (16 - 1) = 32768 := rfl
    rw [e2] at le
    rw [e]
    omega
  · have e : (2 : Nat) ^ 32 = 4294967296 := rfl
    have e2 : (2 : Nat) ^ (32 - 1) = 2147483648 := rfl
    rw [e2] at le
    rw [e]
    omega
  · have e : (2 : Nat) ^ 64 = 18446744073709551616 := rfl
    rw [e]
theorem los_n (b : Bool) : (if b = true then (32 : Int32) else 0) = nI (if b then 32 else 0) ∧ (if b then 32 else 0) < 64 := by cases b <;> decide
theorem writeWhole_C {σ : St} {w t a n : Nat} {m : Nat → Nat} {A : Re} (hn : n = 16 ∨ n = 32 ∨ n = 64) (ha : RealIs σ a A.1 A.2.1 A.2.2) (hl : Loaded σ 9 A.2.2 (unitN A.2.1)) (hs : gI σ 6 3 = nI w) (hw : w < 65536) (ht : gI σ 7 3 = nI t) (htt : t < 64) (hne : endsW w t = false) (hM : MB σ m) : WrC σ (f_Wr_writeWhole σ (nI (n / 8)) a) w t m ((whoW w n A).1, n / 8, vB (whoW w n A).2) := by
  have way4 : wayOf w ≤ 4 := by have := wayOf_lt w; omega
  have v1 := whole_v hn
  have p256n : 256 ^ (n / 8) = 2 ^ n := by
    rw [p256]
    congr 1
    omega
  have n8 : n / 8 ≤ 8 := by omega
  have p0 := pow_pos2 (n - 1)
  have p63 : (2 : Nat) ^ (n - 1) ≤ 9223372036854775808 := Nat.pow_le_pow_right (j := 63) (by decide) (by omega)
  unfold f_Wr_writeWhole f_Wr_writeWhole_b100
  rw [rounding_eq hs hw]
  dsimp only
  generalize jlshl (-1) (8 * nI (n / 8) - 1) = v at v1 ⊢
  have bad : ∀ ρ : St, frY σ ρ → gI ρ 6 3 = nI w → gI ρ 7 3 = nI t → MB ρ m → ¬ (wBig A = false ∧ (wK (wayOf w) A < 2 ^ (n - 1) ∨ (A.1 = true ∧ wK (wayOf w) A = 2 ^ (n - 1)))) → WrC σ (if f_Ctl_endsWriting (f_Ctl_tell ρ 1) = true then f_Ctl_tell ρ 1 else f_Mem_put (f_Ctl_tell ρ 1) 0 (nI (n / 8)) v) w t m ((whoW w n A).1, n / 8, vB (whoW w n A).2) := fun ρ g1 g2 g3 g4 g5 => by
    rw [who_bad g5]
    refine fin_put (frY_trans g1 (frY_tell _ _)) g2 hw ?_ htt (show 1 < 64 by decide) hne (MB_tell g4 1) n8 ?_
    · rw [tell_7, g3, show (1 : Int32) = nI 1 from rfl, nI_or _ _ (by omega) (by decide)]
    · rw [v1, p256n]
      exact whole_bad hn
  rcases toWhole_C ha hl way4 with ⟨b1, b2⟩ | ⟨b1, K, b2, b3⟩
  · rw [b2]
    simp only [Bool.false_eq_true, if_false]
    exact bad σ (frY_refl _) hs ht hM (fun q => by rw [b1] at q; cases q.1)
  · rw [b2]
    have f1 : frS σ (sZ (sJ σ 12 9 K) 13 9 (lossy (wX A))) := frS_rd _ _ _ _
    have g12 : gJ (sZ (sJ σ 12 9 K) 13 9 (lossy (wX A))) 12 9 = K := by simp [gJ_sZ, gJ_sJ]
    have g13 : gZ (sZ (sJ σ 12 9 K) 13 9 (lossy (wX A))) 13 9 = lossy (wX A) := by simp [gZ_sZ]
    dsimp only
    generalize sZ (sJ σ 12 9 K) 13 9 (lossy (wX A)) = ρ at *
    have ra := RealIs_fr ha f1
    simp only [if_true]
    rw [g12, g13, ra.1, within_C p0 p63 v1, b3]
    by_cases c : wK (wayOf w) A < 2 ^ (n - 1) ∨ (A.1 = true ∧ wK (wayOf w) A = 2 ^ (n - 1))
    · rw [decide_eq_true c]
      simp only [if_true]
      rw [who_ok ⟨b1, c⟩, (los_n (lossy (wX A))).1]
      refine fin_put (frY_trans (frY_S f1) (frY_tell _ _)) ?_ hw ?_ htt (los_n (lossy (wX A))).2 hne (MB_tell (MB_S hM f1) _) n8 ?_
      · rw [tell_6, f1.1 6 3 (by decide)]
        exact hs
      · have := (los_n (lossy (wX A))).2
        rw [tell_7, f1.1 7 3 (by decide), ht, nI_or _ _ (by omega) (by omega)]
      · rw [p256n]
        have le : wK (wayOf w) A ≤ 2 ^ (n - 1) := by omega
        generalize wK (wayOf w) A = k at *
        cases A.1 with
        | true =>
          rw [if_pos (rfl : true = true), if_pos (rfl : true = true), uN_negate, b3]
          exact whole_neg hn le
        | false =>
          rw [if_neg Bool.false_ne_true, if_neg Bool.false_ne_true, b3, Nat.mod_mod]
    · rw [decide_eq_false c]
      simp only [Bool.false_eq_true, if_false]
      exact bad _ (frY_S f1) (by rw [f1.1 6 3 (by decide)]; exact hs) (by rw [f1.1 7 3 (by decide)]; exact ht) (MB_S hM f1) (fun q => c q.2)
