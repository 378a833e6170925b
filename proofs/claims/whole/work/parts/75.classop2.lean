/-! the class's operation, as a whole -/
theorem ends_gen {t w k : Nat} (ht : t < 2 ^ 31) (hw : w < 2 ^ 31) (hk : k ≤ 30) : ((nI t &&& (nI w ^^^ (-1))) &&& nI (2 ^ k - 1) = 0) ↔ ∀ i, i < k → ¬ (t.testBit i = true ∧ w.testBit i = false) := by
  have hb : ∀ i, i < 32 → ((nI t &&& (nI w ^^^ (-1))) &&& nI (2 ^ k - 1)).toBitVec.getLsbD i = ((t.testBit i && !w.testBit i) && decide (i < k)) := fun i hi => by
    rw [Int32.toBitVec_and, Int32.toBitVec_and, Int32.toBitVec_xor, BitVec.getLsbD_and, BitVec.getLsbD_and, BitVec.getLsbD_xor]
    have e1 : ∀ n : Nat, (nI n).toBitVec.getLsbD i = n.testBit i := fun n => by
      show (BitVec.ofNat 32 n).getLsbD i = _
      rw [BitVec.getLsbD_ofNat]
      simp [hi]
    have e2 : (-1 : Int32).toBitVec.getLsbD i = true := by
      have : (-1 : Int32).toBitVec = BitVec.allOnes 32 := by decide
      rw [this, BitVec.getLsbD_allOnes]
      simp [hi]
    rw [e1, e1, e1, e2, Nat.testBit_two_pow_sub_one]
    simp
  constructor
  · intro h i hi ⟨h1, h2⟩
    have := hb i (by omega)
    rw [h, h1, h2] at this
    simp [hi] at this
  · intro h
    apply Int32.toBitVec_inj.mp
    apply BitVec.eq_of_getLsbD_eq
    intro i hi
    rw [hb i hi]
    by_cases c : i < k
    · have := h i c
      cases h1 : t.testBit i <;> cases h2 : w.testBit i <;> simp_all
    · simp [c]
theorem endsN_tb (w t : Nat) : endsN w t = ((t.testBit 0 && !w.testBit 0) || (t.testBit 1 && !w.testBit 1) || (t.testBit 2 && !w.testBit 2)) := by
  unfold endsN
  rw [ntb, ntb, ntb, ntb, ntb, ntb]
  have q : ∀ x : Nat, (!decide (x % 2 = 1)) = decide (x % 2 = 0) := fun x => by
    by_cases h : x % 2 = 1
    · simp [h]
    · have : x % 2 = 0 := by omega
      simp [this]
  simp only [q]
  simp
theorem ends_N {σ : St} {w t : Nat} (hs : gI σ 6 3 = nI w) (hw : w < 65536) (ht : gI σ 7 3 = nI t) (htt : t < 64) : f_Ctl_ends σ = endsN w t := by
  have h := ends_gen (t := t) (w := w) (k := 3) (by omega) (by omega) (by decide)
  have c : ((nI t &&& (nI w ^^^ (-1))) &&& 7 = 0) ↔ endsN w t = false := by
    rw [show (7 : Int32) = nI (2 ^ 3 - 1) from rfl, h, endsN_tb]
    constructor
    · intro q
      have q0 := q 0 (by decide)
      have q1 := q 1 (by decide)
      have q2 := q 2 (by decide)
      cases h0 : t.testBit 0 <;> cases h1 : t.testBit 1 <;> cases h2 : t.testBit 2 <;> cases g0 : w.testBit 0 <;> cases g1 : w.testBit 1 <;> cases g2 : w.testBit 2 <;> simp_all
    · intro q i hi ⟨a, b⟩
      rcases (show i = 0 ∨ i = 1 ∨ i = 2 by omega) with rfl | rfl | rfl <;> rw [a, b] at q <;> simp at q
  unfold f_Ctl_ends
  simp only [hs, ht, c]
  cases endsN w t <;> rfl
theorem endsN_or (w t T : Nat) : endsN w (t ||| T) = (endsN w t || endsN w T) := by
  rw [endsN_tb, endsN_tb, endsN_tb, Nat.testBit_or, Nat.testBit_or, Nat.testBit_or]
  cases t.testBit 0 <;> cases t.testBit 1 <;> cases t.testBit 2 <;> cases T.testBit 0 <;> cases T.testBit 1 <;> cases T.testBit 2 <;> cases w.testBit 0 <;> cases w.testBit 1 <;> cases w.testBit 2 <;> rfl
def frR (a : Nat) (σ τ : St) : Prop := (∀ k x, k ≠ 11 → k ≠ 7 → ¬ (k = 16 ∧ x = a) → gI τ k x = gI σ k x) ∧ (∀ k x, k ≠ 8 → k ≠ 9 → k ≠ 12 → k ≠ 14 → ¬ (k = 17 ∧ x = a) → gJ τ k x = gJ σ k x) ∧ (∀ k x, k ≠ 10 → k ≠ 13 → ¬ (k = 15 ∧ x = a) → gZ τ k x = gZ σ k x)
theorem frR_refl (a : Nat) (σ : St) : frR a σ σ := ⟨fun _ _ _ _ _ => rfl, fun _ _ _ _ _ _ _ => rfl, fun _ _ _ _ _ => rfl⟩
theorem frR_trans {a : Nat} {σ τ ρ : St} (h : frR a σ τ) (g : frR a τ ρ) : frR a σ ρ := ⟨fun k x p q r => (g.1 k x p q r).trans (h.1 k x p q r), fun k x p q r s u => (g.2.1 k x p q r s u).trans (h.2.1 k x p q r s u), fun k x p q r => (g.2.2 k x p q r).trans (h.2.2 k x p q r)⟩
theorem frR_S {a : Nat} {σ τ : St} (h : frS σ τ) : frR a σ τ := ⟨fun k x p _ _ => h.1 k x p, fun k x p q r s _ => h.2.1 k x p q r s, fun k x p q _ => h.2.2 k x p q⟩
theorem frR_tell (a : Nat) (σ : St) (v : Int32) : frR a σ (f_Ctl_tell σ v) := by
  refine ⟨fun k x p q r => ?_, fun k x p q r s u => rfl, fun k x p q r => rfl⟩
  unfold f_Ctl_tell
  rw [gI_sI, if_neg q]
theorem frR_set (a : Nat) (σ : St) (m : Bool) (p : Int32) (f : Int64) : frR a σ (f_Real_set σ a m p f) := by
  refine ⟨fun k x p q r => ?_, fun k x p q r s u => ?_, fun k x p q r => ?_⟩
  · unfold f_Real_set
    simp only [gI_sJ, gI_sI, gI_sZ]
    grind
  · unfold f_Real_set
    simp only [gJ_sJ, gJ_sI, gJ_sZ]
    grind
  · unfold f_Real_set
    simp only [gZ_sJ, gZ_sI, gZ_sZ]
    grind
theorem set_get (σ : St) (a : Nat) (m : Bool) (p : Int32) (f : Int64) : gZ (f_Real_set σ a m p f) 15 a = m ∧ gI (f_Real_set σ a m p f) 16 a = p ∧ gJ (f_Real_set σ a m p f) 17 a = f ∧ gI (f_Real_set σ a m p f) 7 3 = gI σ 7 3 ∧ gI (f_Real_set σ a m p f) 6 3 = gI σ 6 3 := by
  refine ⟨?_, ?_, ?_, rfl, rfl⟩
  · simp [f_Real_set, gZ_sJ, gZ_sI, gZ_sZ]
  · simp [f_Real_set, gI_sJ, gI_sI]
  · simp [f_Real_set, gJ_sJ]
theorem take_set (σ : St) (o a : Nat) : f_Real_take σ o a = f_Real_set σ o (gZ σ 15 a) (gI σ 16 a) (gJ σ 17 a) := rfl
theorem tell_7 (σ : St) (v : Int32) : gI (f_Ctl_tell σ v) 7 3 = gI σ 7 3 ||| v := by simp [f_Ctl_tell, gI_sI]
theorem or_lt64 {a b : Nat} (ha : a < 64) (hb : b < 64) : a ||| b < 64 := Nat.or_lt_two_pow (n := 6) ha hb
theorem RealIs_frR {σ τ : St} {a a4 P F : Nat} {m : Bool} (h : RealIs σ a m P F) (f : frR a4 σ τ) (hne : a ≠ a4) : RealIs τ a m P F := by
  refine ⟨?_, ?_, ?_, h.2.2.2⟩
  · rw [f.2.2 15 a (by decide) (by decide) (fun q => hne q.2)]
    exact h.1
  · rw [f.1 16 a (by decide) (by decide) (fun q => hne q.2)]
    exact h.2.1
  · rw [f.2.1 17 a (by decide) (by decide) (by decide) (by decide) (fun q => hne q.2)]
    exact h.2.2.1
theorem noNumber_N {σ : St} {a b a4 Pa Fa Pb Fb : Nat} {ma mb : Bool} (ha : RealIs σ a ma Pa Fa) (hb : RealIs σ b mb Pb Fb) :
    (isNan Pa Fa || isNan Pb Fb) = false ∧ f_Real_takeNoNumber σ a4 a b = (false, σ) ∨ (isNan Pa Fa || isNan Pb Fb) = true ∧ ∃ x, (x = a ∨ x = b) ∧ RealIs σ x (nanS (ma, Pa, Fa) (mb, Pb, Fb)).1 (nanS (ma, Pa, Fa) (mb, Pb, Fb)).2.1 (nanS (ma, Pa, Fa) (mb, Pb, Fb)).2.2 ∧ f_Real_takeNoNumber σ a4 a b = (true, f_Real_take σ a4 x) := by
  have t1 : (if f_Real_kind σ a = 5 then true else false) = isNan Pa Fa := by
    simp only [nan_N ha]
    cases isNan Pa Fa <;> rfl
  have t2 : (if f_Real_kind σ b = 5 then true else false) = isNan Pb Fb := by
    simp only [nan_N hb]
    cases isNan Pb Fb <;> rfl
  unfold f_Real_takeNoNumber f_Real_takeNoNumber_b40
  simp only [t1, t2, before_N hb ha]
  unfold nanS
  cases h1 : isNan Pa Fa <;> cases h2 : isNan Pb Fb
  · left
    exact ⟨rfl, rfl⟩
  · right
    exact ⟨rfl, b, Or.inr rfl, by simpa using hb, rfl⟩
  · right
    exact ⟨rfl, a, Or.inl rfl, by simpa using ha, rfl⟩
  · right
    cases h3 : beforeS (mb, Pb, Fb) (ma, Pa, Fa)
    · exact ⟨rfl, a, Or.inl rfl, by simpa using ha, rfl⟩
    · exact ⟨rfl, b, Or.inr rfl, by simpa using hb, rfl⟩
