/-! the stack's state, as class and reference hold it -/
def Ab : Type := (Nat → Nat) × (Nat → Re) × (Nat → Bool) × Nat × Nat × Nat × Bool × Bool × Bool × Bool × Nat × Nat × Nat × Nat × Nat × Nat × Nat
abbrev Ab.m (a : Ab) : Nat → Nat := a.1
abbrev Ab.r (a : Ab) : Nat → Re := a.2.1
abbrev Ab.e (a : Ab) : Nat → Bool := a.2.2.1
abbrev Ab.top (a : Ab) : Nat := a.2.2.2.1
abbrev Ab.w (a : Ab) : Nat := a.2.2.2.2.1
abbrev Ab.told (a : Ab) : Nat := a.2.2.2.2.2.1
abbrev Ab.c0 (a : Ab) : Bool := a.2.2.2.2.2.2.1
abbrev Ab.c1 (a : Ab) : Bool := a.2.2.2.2.2.2.2.1
abbrev Ab.c2 (a : Ab) : Bool := a.2.2.2.2.2.2.2.2.1
abbrev Ab.c3 (a : Ab) : Bool := a.2.2.2.2.2.2.2.2.2.1
abbrev Ab.kc (a : Ab) : Nat := a.2.2.2.2.2.2.2.2.2.2.1
abbrev Ab.kp (a : Ab) : Nat := a.2.2.2.2.2.2.2.2.2.2.2.1
abbrev Ab.ko (a : Ab) : Nat := a.2.2.2.2.2.2.2.2.2.2.2.2.1
abbrev Ab.lc (a : Ab) : Nat := a.2.2.2.2.2.2.2.2.2.2.2.2.2.1
abbrev Ab.lp (a : Ab) : Nat := a.2.2.2.2.2.2.2.2.2.2.2.2.2.2.1
abbrev Ab.lo (a : Ab) : Nat := a.2.2.2.2.2.2.2.2.2.2.2.2.2.2.2.1
abbrev Ab.now (a : Ab) : Nat := a.2.2.2.2.2.2.2.2.2.2.2.2.2.2.2.2
abbrev Ab.mk17 (m : Nat → Nat) (r : Nat → Re) (e : Nat → Bool) (top w told : Nat) (c0 c1 c2 c3 : Bool) (kc kp ko lc lp lo now : Nat) : Ab := (m, r, e, top, w, told, c0, c1, c2, c3, kc, kp, ko, lc, lp, lo, now)
def cndN (c0 c1 c2 c3 : Bool) : Nat := (if c0 then 256 else 0) + (if c1 then 512 else 0) + (if c2 then 1024 else 0) + (if c3 then 16384 else 0)
abbrev K6 : Type := Nat × Nat × Nat × Nat × Nat × Nat
def kp6 (a : Ab) : K6 := (a.kc, a.kp, a.ko, a.lc, a.lp, a.lo)
def AOK (K : K6) (a : Ab) : Prop :=
  (∀ k, a.m k < 256) ∧ (∀ i, i < 8 → (a.r i).2.1 ≤ 32767) ∧ (a.top < 8) ∧ (a.w < 65536) ∧ (a.told < 64) ∧ (a.kc < 2048) ∧ (a.kp < 1048576) ∧ (a.ko < 1048576) ∧ (a.lc < 2048) ∧ (a.lp < 1048576) ∧ (a.lo < 1048576) ∧ (a.now < 64) ∧ (kp6 a = K)
theorem AOK.m {K : K6} {a : Ab} (h : AOK K a) : ∀ k, a.m k < 256 := h.1
theorem AOK.r {K : K6} {a : Ab} (h : AOK K a) : ∀ i, i < 8 → (a.r i).2.1 ≤ 32767 := h.2.1
theorem AOK.top {K : K6} {a : Ab} (h : AOK K a) : a.top < 8 := h.2.2.1
theorem AOK.w {K : K6} {a : Ab} (h : AOK K a) : a.w < 65536 := h.2.2.2.1
theorem AOK.told {K : K6} {a : Ab} (h : AOK K a) : a.told < 64 := h.2.2.2.2.1
theorem AOK.kc {K : K6} {a : Ab} (h : AOK K a) : a.kc < 2048 := h.2.2.2.2.2.1
theorem AOK.kp {K : K6} {a : Ab} (h : AOK K a) : a.kp < 1048576 := h.2.2.2.2.2.2.1
theorem AOK.ko {K : K6} {a : Ab} (h : AOK K a) : a.ko < 1048576 := h.2.2.2.2.2.2.2.1
theorem AOK.lc {K : K6} {a : Ab} (h : AOK K a) : a.lc < 2048 := h.2.2.2.2.2.2.2.2.1
theorem AOK.lp {K : K6} {a : Ab} (h : AOK K a) : a.lp < 1048576 := h.2.2.2.2.2.2.2.2.2.1
theorem AOK.lo {K : K6} {a : Ab} (h : AOK K a) : a.lo < 1048576 := h.2.2.2.2.2.2.2.2.2.2.1
theorem AOK.now {K : K6} {a : Ab} (h : AOK K a) : a.now < 64 := h.2.2.2.2.2.2.2.2.2.2.2.1
theorem AOK.kk {K : K6} {a : Ab} (h : AOK K a) : kp6 a = K := h.2.2.2.2.2.2.2.2.2.2.2.2
theorem AOK_mk {K : K6} {a : Ab} (h_m : ∀ k, a.m k < 256) (h_r : ∀ i, i < 8 → (a.r i).2.1 ≤ 32767) (h_top : a.top < 8) (h_w : a.w < 65536) (h_told : a.told < 64) (h_kc : a.kc < 2048) (h_kp : a.kp < 1048576) (h_ko : a.ko < 1048576) (h_lc : a.lc < 2048) (h_lp : a.lp < 1048576) (h_lo : a.lo < 1048576) (h_now : a.now < 64) (h_kk : kp6 a = K) : AOK K a := ⟨h_m, h_r, h_top, h_w, h_told, h_kc, h_kp, h_ko, h_lc, h_lp, h_lo, h_now, h_kk⟩
def RC (a : Ab) (σ : St) : Prop :=
  (MB σ a.m) ∧ (∀ i, i < 8 → RealIs σ (16 + i) (a.r i).1 (a.r i).2.1 (a.r i).2.2) ∧ (∀ i, i < 8 → gZ σ 101 i = a.e i) ∧ (gI σ 0 0 = nI a.top) ∧ (gI σ 6 3 = nI a.w) ∧ (gI σ 1 0 = nI a.told) ∧ (gI σ 2 0 = nI (cndN a.c0 a.c1 a.c2 a.c3)) ∧ (gI σ 3 0 = nI a.kc) ∧ (gI σ 4 0 = nI a.kp) ∧ (gI σ 5 0 = nI a.ko) ∧ (gI σ 7 3 = nI a.now)
theorem RC.m {a : Ab} {σ : St} (h : RC a σ) : MB σ a.m := h.1
theorem RC.r {a : Ab} {σ : St} (h : RC a σ) : ∀ i, i < 8 → RealIs σ (16 + i) (a.r i).1 (a.r i).2.1 (a.r i).2.2 := h.2.1
theorem RC.e {a : Ab} {σ : St} (h : RC a σ) : ∀ i, i < 8 → gZ σ 101 i = a.e i := h.2.2.1
theorem RC.top {a : Ab} {σ : St} (h : RC a σ) : gI σ 0 0 = nI a.top := h.2.2.2.1
theorem RC.w {a : Ab} {σ : St} (h : RC a σ) : gI σ 6 3 = nI a.w := h.2.2.2.2.1
theorem RC.told {a : Ab} {σ : St} (h : RC a σ) : gI σ 1 0 = nI a.told := h.2.2.2.2.2.1
theorem RC.c {a : Ab} {σ : St} (h : RC a σ) : gI σ 2 0 = nI (cndN a.c0 a.c1 a.c2 a.c3) := h.2.2.2.2.2.2.1
theorem RC.kc {a : Ab} {σ : St} (h : RC a σ) : gI σ 3 0 = nI a.kc := h.2.2.2.2.2.2.2.1
theorem RC.kp {a : Ab} {σ : St} (h : RC a σ) : gI σ 4 0 = nI a.kp := h.2.2.2.2.2.2.2.2.1
theorem RC.ko {a : Ab} {σ : St} (h : RC a σ) : gI σ 5 0 = nI a.ko := h.2.2.2.2.2.2.2.2.2.1
theorem RC.now {a : Ab} {σ : St} (h : RC a σ) : gI σ 7 3 = nI a.now := h.2.2.2.2.2.2.2.2.2.2
theorem RC_mk {a : Ab} {σ : St} (h_m : MB σ a.m) (h_r : ∀ i, i < 8 → RealIs σ (16 + i) (a.r i).1 (a.r i).2.1 (a.r i).2.2) (h_e : ∀ i, i < 8 → gZ σ 101 i = a.e i) (h_top : gI σ 0 0 = nI a.top) (h_w : gI σ 6 3 = nI a.w) (h_told : gI σ 1 0 = nI a.told) (h_c : gI σ 2 0 = nI (cndN a.c0 a.c1 a.c2 a.c3)) (h_kc : gI σ 3 0 = nI a.kc) (h_kp : gI σ 4 0 = nI a.kp) (h_ko : gI σ 5 0 = nI a.ko) (h_now : gI σ 7 3 = nI a.now) : RC a σ := ⟨h_m, h_r, h_e, h_top, h_w, h_told, h_c, h_kc, h_kp, h_ko, h_now⟩
def RM (a : Ab) (τ : St) : Prop :=
  (RBy τ a.m) ∧ (∀ i, i < 8 → RegIs τ 101 102 i (a.r i)) ∧ (∀ i, i < 8 → gZ τ 103 i = a.e i) ∧ (gI τ 1 30 = nI a.top) ∧ (gI τ 2 30 = nI a.w) ∧ (gI τ 3 30 = nI a.told) ∧ (gI τ 4 30 = nI (cndN a.c0 a.c1 a.c2 a.c3)) ∧ (gI τ 5 30 = nI a.lc) ∧ (gI τ 6 30 = nI a.lp) ∧ (gI τ 7 30 = nI a.lo) ∧ (gI τ 8 30 = nI a.now) ∧ (Byt τ)
theorem RM.m {a : Ab} {τ : St} (h : RM a τ) : RBy τ a.m := h.1
theorem RM.r {a : Ab} {τ : St} (h : RM a τ) : ∀ i, i < 8 → RegIs τ 101 102 i (a.r i) := h.2.1
theorem RM.e {a : Ab} {τ : St} (h : RM a τ) : ∀ i, i < 8 → gZ τ 103 i = a.e i := h.2.2.1
theorem RM.top {a : Ab} {τ : St} (h : RM a τ) : gI τ 1 30 = nI a.top := h.2.2.2.1
theorem RM.w {a : Ab} {τ : St} (h : RM a τ) : gI τ 2 30 = nI a.w := h.2.2.2.2.1
theorem RM.told {a : Ab} {τ : St} (h : RM a τ) : gI τ 3 30 = nI a.told := h.2.2.2.2.2.1
theorem RM.c {a : Ab} {τ : St} (h : RM a τ) : gI τ 4 30 = nI (cndN a.c0 a.c1 a.c2 a.c3) := h.2.2.2.2.2.2.1
theorem RM.kc {a : Ab} {τ : St} (h : RM a τ) : gI τ 5 30 = nI a.lc := h.2.2.2.2.2.2.2.1
theorem RM.kp {a : Ab} {τ : St} (h : RM a τ) : gI τ 6 30 = nI a.lp := h.2.2.2.2.2.2.2.2.1
theorem RM.ko {a : Ab} {τ : St} (h : RM a τ) : gI τ 7 30 = nI a.lo := h.2.2.2.2.2.2.2.2.2.1
theorem RM.now {a : Ab} {τ : St} (h : RM a τ) : gI τ 8 30 = nI a.now := h.2.2.2.2.2.2.2.2.2.2.1
theorem RM.byt {a : Ab} {τ : St} (h : RM a τ) : Byt τ := h.2.2.2.2.2.2.2.2.2.2.2
theorem RM_mk {a : Ab} {τ : St} (h_m : RBy τ a.m) (h_r : ∀ i, i < 8 → RegIs τ 101 102 i (a.r i)) (h_e : ∀ i, i < 8 → gZ τ 103 i = a.e i) (h_top : gI τ 1 30 = nI a.top) (h_w : gI τ 2 30 = nI a.w) (h_told : gI τ 3 30 = nI a.told) (h_c : gI τ 4 30 = nI (cndN a.c0 a.c1 a.c2 a.c3)) (h_kc : gI τ 5 30 = nI a.lc) (h_kp : gI τ 6 30 = nI a.lp) (h_ko : gI τ 7 30 = nI a.lo) (h_now : gI τ 8 30 = nI a.now) (h_byt : Byt τ) : RM a τ := ⟨h_m, h_r, h_e, h_top, h_w, h_told, h_c, h_kc, h_kp, h_ko, h_now, h_byt⟩
def updt {α : Type} (f : Nat → α) (i : Nat) (v : α) : Nat → α := fun x => if x = i then v else f x
theorem updt_self {α : Type} (f : Nat → α) (i : Nat) (v : α) : updt f i v i = v := if_pos rfl
theorem updt_ne {α : Type} (f : Nat → α) {i x : Nat} (v : α) (h : x ≠ i) : updt f i v x = f x := if_neg h
def plN (a : Ab) (k : Nat) : Nat := (a.top + k) % 8
def indR : Re := (true, 32767, 13835058055282163712)
def regN (a : Ab) (k : Nat) : Re := if a.e (plN a k) then indR else a.r (plN a k)
def lackN (a : Ab) (k : Nat) : Nat := if a.e (plN a k) then 1 else 0
def keepA (a : Ab) (k : Nat) (R : Re) : Ab := (Ab.mk17 a.m (updt a.r (plN a k) R) (updt a.e (plN a k) false) a.top a.w a.told a.c0 a.c1 a.c2 a.c3 a.kc a.kp a.ko a.lc a.lp a.lo a.now)
def popA (a : Ab) : Ab := (Ab.mk17 a.m a.r (updt a.e a.top true) ((a.top + 1) % 8) a.w a.told a.c0 a.c1 a.c2 a.c3 a.kc a.kp a.ko a.lc a.lp a.lo a.now)
def nowA (a : Ab) (T : Nat) : Ab := (Ab.mk17 a.m a.r a.e a.top a.w a.told a.c0 a.c1 a.c2 a.c3 a.kc a.kp a.ko a.lc a.lp a.lo (a.now ||| T))
theorem nowA_one {b : Ab} (one : b.now = 1) : nowA b 1 = b := by
  have e : b.now ||| 1 = b.now := by
    rw [one]
    decide
  unfold nowA
  rw [e]
  rfl
theorem plN_lt (a : Ab) (k : Nat) : plN a k < 8 := Nat.mod_lt _ (by decide)
theorem lackN_lt (a : Ab) (k : Nat) : lackN a k < 64 := by
  unfold lackN
  split <;> decide
theorem regN_ok {K : K6} {a : Ab} (h : AOK K a) (k : Nat) : (regN a k).2.1 ≤ 32767 := by
  unfold regN
  split
  · decide
  · exact h.r _ (plN_lt a k)
theorem AOK_now {K : K6} {a : Ab} (h : AOK K a) {T : Nat} (hT : T < 64) : AOK K (nowA a T) := (AOK_mk h.m h.r h.top h.w h.told h.kc h.kp h.ko h.lc h.lp h.lo (or_lt64 h.now hT) h.kk)
theorem AOK_keep {K : K6} {a : Ab} (h : AOK K a) (k : Nat) {R : Re} (hR : R.2.1 ≤ 32767) : AOK K (keepA a k R) := (AOK_mk h.m (fun i hi => by
  show (updt a.r (plN a k) R i).2.1 ≤ 32767
  unfold updt
  split
  · exact hR
  · exact h.r i hi) h.top h.w h.told h.kc h.kp h.ko h.lc h.lp h.lo h.now h.kk)
theorem AOK_pop {K : K6} {a : Ab} (h : AOK K a) : AOK K (popA a) := (AOK_mk h.m h.r (Nat.mod_lt _ (by decide)) h.w h.told h.kc h.kp h.ko h.lc h.lp h.lo h.now h.kk)
/-- the class's frame: all but told and what is worked with -/
theorem RC_P {a : Ab} {σ τ : St} {n : Nat} (h : RC a σ) (f : frP σ τ) (hn : gI τ 7 3 = nI n) : RC (Ab.mk17 a.m a.r a.e a.top a.w a.told a.c0 a.c1 a.c2 a.c3 a.kc a.kp a.ko a.lc a.lp a.lo (n)) τ := RC_mk
  (fun k hk => by rw [f.1 100 k (by decide) (by decide) (by decide) (by omega)]; exact h.m k hk)
  (fun i hi => by
    obtain ⟨h1, h2, h3, h4⟩ := h.r i hi
    exact ⟨by rw [f.2.2 15 _ (by decide) (by decide) (by decide) (by decide) (by omega)]; exact h1, by rw [f.1 16 _ (by decide) (by decide) (by decide) (by omega)]; exact h2, by rw [f.2.1 17 _ (by decide) (by decide) (by decide) (by decide) (by omega)]; exact h3, h4⟩)
  (fun i hi => by rw [f.2.2 101 i (by decide) (by decide) (by decide) (by decide) (by omega)]; exact h.e i hi)
  (by rw [f.1 0 0 (by decide) (by decide) (by decide) (by omega)]; exact h.top)
  (by rw [f.1 6 3 (by decide) (by decide) (by decide) (by omega)]; exact h.w)
  (by rw [f.1 1 0 (by decide) (by decide) (by decide) (by omega)]; exact h.told)
  (by rw [f.1 2 0 (by decide) (by decide) (by decide) (by omega)]; exact h.c)
  (by rw [f.1 3 0 (by decide) (by decide) (by decide) (by omega)]; exact h.kc)
  (by rw [f.1 4 0 (by decide) (by decide) (by decide) (by omega)]; exact h.kp)
  (by rw [f.1 5 0 (by decide) (by decide) (by decide) (by omega)]; exact h.ko)
  (hn)
theorem RM_X {a : Ab} {τ ρ : St} {n : Nat} (h : RM a τ) (f : frX τ ρ) (hn : gI ρ 8 30 = nI n) : RM (Ab.mk17 a.m a.r a.e a.top a.w a.told a.c0 a.c1 a.c2 a.c3 a.kc a.kp a.ko a.lc a.lp a.lo (n)) ρ := RM_mk
  (fun k hk => by rw [(f.1 100 k (by decide)).1]; exact h.m k hk)
  (fun i hi => by
    obtain ⟨h1, h2, h3⟩ := h.r i hi
    exact ⟨by rw [(f.1 101 i (by decide)).1]; exact h1, by rw [(f.1 102 i (by decide)).2.1]; exact h2, h3⟩)
  (fun i hi => by rw [(f.1 103 i (by decide)).2.2]; exact h.e i hi)
  (by rw [(f.1 1 30 (by decide)).1]; exact h.top)
  (by rw [(f.1 2 30 (by decide)).1]; exact h.w)
  (by rw [(f.1 3 30 (by decide)).1]; exact h.told)
  (by rw [(f.1 4 30 (by decide)).1]; exact h.c)
  (by rw [(f.1 5 30 (by decide)).1]; exact h.kc)
  (by rw [(f.1 6 30 (by decide)).1]; exact h.kp)
  (by rw [(f.1 7 30 (by decide)).1]; exact h.ko)
  (hn)
  (f.2 h.byt)
theorem RM_X0 {a : Ab} {τ ρ : St} (h : RM a τ) (f : frX τ ρ) (hn : gI ρ 8 30 = nI a.now) : RM a ρ := RM_X (n := a.now) h f hn
theorem RC_P0 {a : Ab} {σ τ : St} (h : RC a σ) (f : frP σ τ) (hn : gI τ 7 3 = nI a.now) : RC a τ := RC_P (n := a.now) h f hn
/-! places -/
theorem place_C {K : K6} {a : Ab} {σ : St} (h : RC a σ) (ha : AOK K a) {k : Nat} (hk : k < 8) : f_PS_place σ (nI k) = nI (plN a k) := by
  have t := ha.top
  have m7 : (7 : Int32).toBitVec.toNat = 2 ^ 3 - 1 := by decide
  unfold f_PS_place plN
  try dsimp only
  rw [h.top, nI_add, pk_andN (by omega) 3 m7]
theorem st_M {K : K6} {a : Ab} {τ : St} (h : RM a τ) (ha : AOK K a) {k : Nat} (hk : k < 8) : f_M_st τ (nI k) = nI (plN a k) := by
  have t := ha.top
  unfold f_M_st plN
  try dsimp only
  rw [h.top, nI_add]
  exact pk_rem (d := 8) (by omega) (by decide) (by decide)
theorem jat_pl (a : Ab) (k : Nat) : jat (nI (plN a k)) = plN a k := by
  have := plN_lt a k
  exact nI_clamp (by omega)
/-! a number is wanted -/
theorem take_R {σ : St} {x y : Nat} {B : Re} (h : RealIs σ y B.1 B.2.1 B.2.2) (hxy : x ≠ y) : frR x σ (f_Real_take σ x y) ∧ gI (f_Real_take σ x y) 7 3 = gI σ 7 3 ∧ RealIs (f_Real_take σ x y) x B.1 B.2.1 B.2.2 := by
  unfold f_Real_take
  try dsimp only
  refine ⟨⟨fun k z _ _ c => ?_, fun k z _ _ _ _ c => ?_, fun k z _ _ c => ?_⟩, ?_, ?_, ?_, ?_, h.2.2.2⟩
  · rw [gI_sJ, gI_sI]
    by_cases q : k = 16
    · rw [if_pos q, if_neg (fun e => c ⟨q, e⟩), gI_sZ]
    · rw [if_neg q, gI_sZ]
  · rw [gJ_sJ]
    by_cases q : k = 17
    · rw [if_pos q, if_neg (fun e => c ⟨q, e⟩)]
      rfl
    · rw [if_neg q]
      rfl
  · show gZ (sZ σ 15 x _) k z = _
    rw [gZ_sZ]
    by_cases q : k = 15
    · rw [if_pos q, if_neg (fun e => c ⟨q, e⟩)]
    · rw [if_neg q]
  · rw [gI_sJ, gI_sI, if_neg (by decide), gI_sZ]
  · show gZ (sZ σ 15 x _) 15 x = _
    rw [gZ_sZ, if_pos rfl, if_pos rfl]
    exact h.1
  · rw [gI_sJ, gI_sI, if_pos rfl, if_pos rfl, gI_sZ]
    exact h.2.1
  · rw [gJ_sJ, if_pos rfl, if_pos rfl]
    exact h.2.2.1
theorem set_R (σ : St) (x : Nat) (mi : Bool) {P : Nat} {p : Int32} (f : Int64) (hp : p = nI P) (pP : P ≤ 32767) : frR x σ (f_Real_set σ x mi p f) ∧ gI (f_Real_set σ x mi p f) 7 3 = gI σ 7 3 ∧ RealIs (f_Real_set σ x mi p f) x mi P (uN f) := by
  refine ⟨frR_set _ _ _ _ _, ?_, ?_, ?_, ?_, pP⟩
  · unfold f_Real_set
    try dsimp only
    rw [gI_sJ, gI_sI, if_neg (by decide), gI_sZ]
  · unfold f_Real_set
    try dsimp only
    show gZ (sZ σ 15 x mi) 15 x = _
    rw [gZ_sZ, if_pos rfl, if_pos rfl]
  · unfold f_Real_set
    try dsimp only
    rw [gI_sJ, gI_sI, if_pos rfl, if_pos rfl]
    exact hp
  · unfold f_Real_set
    try dsimp only
    rw [gJ_sJ, if_pos rfl, if_pos rfl]
theorem ind_R (σ : St) (x : Nat) : frR x σ (f_Real_setIndefinite σ x) ∧ gI (f_Real_setIndefinite σ x) 7 3 = gI σ 7 3 ∧ RealIs (f_Real_setIndefinite σ x) x indR.1 indR.2.1 indR.2.2 := by
  have := set_R σ x true (P := 32767) (p := 32767) (-4611686018427387904) rfl (by decide)
  unfold f_Real_setIndefinite
  try dsimp only
  exact this
theorem need_C {K : K6} {a : Ab} {σ : St} (h : RC a σ) (ha : AOK K a) {k x : Nat} (hk : k < 8) (hx : 12 ≤ x ∧ x ≤ 15) : frR x σ (f_PS_need σ (nI k) x) ∧ gI (f_PS_need σ (nI k) x) 7 3 = nI (a.now ||| lackN a k) ∧ RealIs (f_PS_need σ (nI k) x) x (regN a k).1 (regN a k).2.1 (regN a k).2.2 := by
  have hn := ha.now
  unfold f_PS_need
  try dsimp only
  rw [place_C h ha hk, jat_pl]
  try dsimp only
  rw [h.e _ (plN_lt a k)]
  unfold regN lackN
  cases he : a.e (plN a k) with
  | true =>
    rw [if_pos (rfl : true = true), if_pos (rfl : true = true), if_pos (rfl : true = true)]
    obtain ⟨i1, i2, i3⟩ := ind_R (f_Ctl_tell σ 1) x
    refine ⟨frR_trans (frR_tell x σ 1) i1, ?_, i3⟩
    rw [i2, tell_7, h.now, show (1 : Int32) = nI 1 from rfl, nI_or _ _ (by omega) (by decide)]
  | false =>
    rw [if_neg Bool.false_ne_true, if_neg Bool.false_ne_true, if_neg Bool.false_ne_true]
    obtain ⟨i1, i2, i3⟩ := take_R (x := x) (h.r _ (plN_lt a k)) (by omega)
    refine ⟨i1, ?_, i3⟩
    rw [i2, Nat.or_zero]
    exact h.now
theorem want_M {K : K6} {a : Ab} {τ : St} (h : RM a τ) (ha : AOK K a) {k : Nat} (hk : k < 8) : f_M_want τ (nI k) = (if lackN a k = 1 then sZ (sI τ 8 30 (nI (a.now ||| 1))) 9 30 (gZ τ 9 30 || endsN a.w 1) else τ) := by
  have hn := ha.now
  unfold f_M_want
  try dsimp only
  rw [st_M h ha hk, jat_pl, h.e _ (plN_lt a k)]
  try dsimp only
  unfold lackN
  cases he : a.e (plN a k) with
  | true =>
    rw [if_pos (rfl : true = true), if_pos (rfl : true = true), if_pos rfl]
    have := say_M (T := 1) h.w ha.w (by decide)
    rw [h.now, nI_or _ _ (by omega) (by decide)] at this
    exact this
  | false => rw [if_neg Bool.false_ne_true, if_neg Bool.false_ne_true, if_neg (by decide)]
theorem want_O {K : K6} {a : Ab} {τ : St} (h : RM a τ) (ha : AOK K a) {k : Nat} (hk : k < 8) : RM (nowA a (lackN a k)) (f_M_want τ (nI k)) ∧ gZ (f_M_want τ (nI k)) 9 30 = (gZ τ 9 30 || endsN a.w (lackN a k)) ∧ (∀ j x, 10 ≤ j → gI (f_M_want τ (nI k)) j x = gI τ j x ∧ gJ (f_M_want τ (nI k)) j x = gJ τ j x) := by
  rw [want_M h ha hk]
  have z : lackN a k = 1 ∨ lackN a k = 0 := by
    unfold lackN
    split
    · exact Or.inl rfl
    · exact Or.inr rfl
  rcases z with z | z
  · rw [if_pos z, z]
    refine ⟨RM_X h (frX_trans (frX_I _ 8 30 _ (by decide)) (frX_Z _ 9 30 _ (by decide))) ?_, ?_, fun j x hj => ⟨?_, rfl⟩⟩
    · rw [gI_sZ, gI_sI, if_pos rfl, if_pos rfl]
    · rw [gZ_sZ, if_pos rfl, if_pos rfl]
    · rw [gI_sZ, gI_sI, if_neg (by omega)]
  · rw [z, if_neg (by decide), ends0, Bool.or_false]
    refine ⟨RM_X h (frX_refl τ) ?_, rfl, fun j x _ => ⟨rfl, rfl⟩⟩
    rw [Nat.or_zero]
    exact h.now
theorem of_M {K : K6} {a : Ab} {τ : St} (h : RM a τ) (ha : AOK K a) {k : Nat} (hk : k < 8) : f_M_topOf τ (nI k) = nI (topN (regN a k)) ∧ uN (f_M_fractionOf τ (nI k)) = (regN a k).2.2 := by
  unfold f_M_topOf f_M_fractionOf
  try dsimp only
  rw [st_M h ha hk, jat_pl, h.e _ (plN_lt a k)]
  try dsimp only
  unfold regN
  cases he : a.e (plN a k) with
  | true =>
    rw [if_pos (rfl : true = true), if_pos (rfl : true = true), if_pos (rfl : true = true)]
    exact ⟨rfl, rfl⟩
  | false =>
    rw [if_neg Bool.false_ne_true, if_neg Bool.false_ne_true, if_neg Bool.false_ne_true]
    obtain ⟨h1, h2, h3⟩ := h.r _ (plN_lt a k)
    exact ⟨h1, h2⟩
theorem regN_now (a : Ab) (T k : Nat) : regN (nowA a T) k = regN a k ∧ lackN (nowA a T) k = lackN a k ∧ plN (nowA a T) k = plN a k := ⟨rfl, rfl, rfl⟩
/-! a number is kept -/
theorem keep_C {K : K6} {a : Ab} {σ : St} (h : RC a σ) (ha : AOK K a) {k x : Nat} {R : Re} (hk : k < 8) (hx : 12 ≤ x ∧ x ≤ 15) (hR : RealIs σ x R.1 R.2.1 R.2.2) : RC (keepA a k R) (f_PS_keep σ (nI k) x) ∧ (∀ j y, ¬ (j = 16 ∧ 16 ≤ y) → gI (f_PS_keep σ (nI k) x) j y = gI σ j y) ∧ (∀ j y, ¬ (j = 17 ∧ 16 ≤ y) → gJ (f_PS_keep σ (nI k) x) j y = gJ σ j y) ∧ (∀ j y, ¬ (j = 15 ∧ 16 ≤ y) → j ≠ 101 → gZ (f_PS_keep σ (nI k) x) j y = gZ σ j y) := by
  have pl := plN_lt a k
  unfold f_PS_keep
  try dsimp only
  rw [place_C h ha hk, jat_pl]
  try dsimp only
  obtain ⟨i1, i2, i3⟩ := take_R (x := 16 + plN a k) hR (by omega)
  have fI : ∀ j y, ¬ (j = 16 ∧ y = 16 + plN a k) → gI (f_Real_take σ (16 + plN a k) x) j y = gI σ j y := fun j y q => by
    unfold f_Real_take
    try dsimp only
    rw [gI_sJ, gI_sI]
    by_cases z : j = 16
    · rw [if_pos z, if_neg (fun e => q ⟨z, e⟩), gI_sZ]
    · rw [if_neg z, gI_sZ]
  have fJ : ∀ j y, ¬ (j = 17 ∧ y = 16 + plN a k) → gJ (f_Real_take σ (16 + plN a k) x) j y = gJ σ j y := fun j y q => by
    unfold f_Real_take
    try dsimp only
    rw [gJ_sJ]
    by_cases z : j = 17
    · rw [if_pos z, if_neg (fun e => q ⟨z, e⟩)]
      rfl
    · rw [if_neg z]
      rfl
  have fZ : ∀ j y, ¬ (j = 15 ∧ y = 16 + plN a k) → gZ (f_Real_take σ (16 + plN a k) x) j y = gZ σ j y := fun j y q => by
    unfold f_Real_take
    try dsimp only
    show gZ (sZ σ 15 (16 + plN a k) _) j y = _
    rw [gZ_sZ]
    by_cases z : j = 15
    · rw [if_pos z, if_neg (fun e => q ⟨z, e⟩)]
    · rw [if_neg z]
  generalize f_Real_take σ (16 + plN a k) x = s at *
  have g101 : ∀ j y, ¬ (j = 101 ∧ y = plN a k) → gZ (sZ s 101 (plN a k) false) j y = gZ s j y := fun j y q => by
    rw [gZ_sZ]
    by_cases z : j = 101
    · rw [if_pos z, if_neg (fun e => q ⟨z, e⟩)]
    · rw [if_neg z]
  refine ⟨?_, fun j y q => ?_, fun j y q => ?_, fun j y q q2 => ?_⟩
  · refine (RC_mk (fun j hj => ?_) (fun i hi => ?_) (fun i hi => ?_) (?_) (?_) (?_) (?_) (?_) (?_) (?_) (?_))
    · rw [gI_sZ, fI 100 j (by omega)]
      exact h.m j hj
    · show RealIs (sZ s 101 (plN a k) false) (16 + i) (updt a.r (plN a k) R i).1 (updt a.r (plN a k) R i).2.1 (updt a.r (plN a k) R i).2.2
      by_cases z : i = plN a k
      · rw [z, updt_self]
        exact ⟨by rw [g101 15 _ (by omega)]; exact i3.1, i3.2⟩
      · rw [updt_ne _ _ z]
        obtain ⟨h1, h2, h3, h4⟩ := h.r i hi
        exact ⟨by rw [g101 15 _ (by omega), fZ 15 _ (by omega)]; exact h1, by rw [gI_sZ, fI 16 _ (by omega)]; exact h2, by rw [gJ_sZ, fJ 17 _ (by omega)]; exact h3, h4⟩
    · show gZ (sZ s 101 (plN a k) false) 101 i = updt a.e (plN a k) false i
      rw [gZ_sZ, if_pos rfl]
      unfold updt
      by_cases z : i = plN a k
      · rw [if_pos z, if_pos z]
      · rw [if_neg z, if_neg z, fZ 101 i (by omega)]
        exact h.e i hi
    · rw [gI_sZ, fI 0 0 (by omega)]; exact h.top
    · rw [gI_sZ, fI 6 3 (by omega)]; exact h.w
    · rw [gI_sZ, fI 1 0 (by omega)]; exact h.told
    · rw [gI_sZ, fI 2 0 (by omega)]; exact h.c
    · rw [gI_sZ, fI 3 0 (by omega)]; exact h.kc
    · rw [gI_sZ, fI 4 0 (by omega)]; exact h.kp
    · rw [gI_sZ, fI 5 0 (by omega)]; exact h.ko
    · rw [gI_sZ, fI 7 3 (by omega)]; exact h.now
  · rw [gI_sZ, fI j y (by omega)]
  · rw [gJ_sZ, fJ j y (by omega)]
  · rw [g101 j y (by omega), fZ j y (by omega)]
theorem becomeX_M {K : K6} {a : Ab} {τ : St} (h : RM a τ) (ha : AOK K a) {k : Nat} {R : Re} (hk : k < 8) (ht : gI τ 13 30 = nI (topN R)) (hf : uN (gJ τ 14 30) = R.2.2) (pR : R.2.1 ≤ 32767) : RM (keepA a k R) (f_M_becomeX τ (nI k)) ∧ (∀ j y, j ≠ 101 → gI (f_M_becomeX τ (nI k)) j y = gI τ j y) ∧ (∀ j y, j ≠ 102 → gJ (f_M_becomeX τ (nI k)) j y = gJ τ j y) ∧ (∀ j y, j ≠ 103 → gZ (f_M_becomeX τ (nI k)) j y = gZ τ j y) := by
  have pl := plN_lt a k
  have e1 := st_M h ha hk
  have e2 : ∀ v w, f_M_st (sI τ 101 v w) (nI k) = nI (plN a k) := fun v w => e1
  have e3 : ∀ v w v2 w2, f_M_st (sJ (sI τ 101 v w) 102 v2 w2) (nI k) = nI (plN a k) := fun v w v2 w2 => e1
  unfold f_M_becomeX
  try dsimp only
  rw [e1, e2, e3, jat_pl]
  have fI : ∀ j y, ¬ (j = 101 ∧ y = plN a k) → gI (sZ (sJ (sI τ 101 (plN a k) (gI τ 13 30)) 102 (plN a k) (gJ (sI τ 101 (plN a k) (gI τ 13 30)) 14 30)) 103 (plN a k) false) j y = gI τ j y := fun j y q => by
    rw [gI_sZ, gI_sJ, gI_sI]
    by_cases z : j = 101
    · rw [if_pos z, if_neg (fun e => q ⟨z, e⟩)]
    · rw [if_neg z]
  have fJ : ∀ j y, ¬ (j = 102 ∧ y = plN a k) → gJ (sZ (sJ (sI τ 101 (plN a k) (gI τ 13 30)) 102 (plN a k) (gJ (sI τ 101 (plN a k) (gI τ 13 30)) 14 30)) 103 (plN a k) false) j y = gJ τ j y := fun j y q => by
    rw [gJ_sZ, gJ_sJ]
    by_cases z : j = 102
    · rw [if_pos z, if_neg (fun e => q ⟨z, e⟩), gJ_sI]
    · rw [if_neg z, gJ_sI]
  have fZ : ∀ j y, ¬ (j = 103 ∧ y = plN a k) → gZ (sZ (sJ (sI τ 101 (plN a k) (gI τ 13 30)) 102 (plN a k) (gJ (sI τ 101 (plN a k) (gI τ 13 30)) 14 30)) 103 (plN a k) false) j y = gZ τ j y := fun j y q => by
    rw [gZ_sZ]
    by_cases z : j = 103
    · rw [if_pos z, if_neg (fun e => q ⟨z, e⟩), gZ_sJ, gZ_sI]
    · rw [if_neg z, gZ_sJ, gZ_sI]
  have s1 : gI (sZ (sJ (sI τ 101 (plN a k) (gI τ 13 30)) 102 (plN a k) (gJ (sI τ 101 (plN a k) (gI τ 13 30)) 14 30)) 103 (plN a k) false) 101 (plN a k) = nI (topN R) := by
    rw [gI_sZ, gI_sJ, gI_sI, if_pos rfl, if_pos rfl]
    exact ht
  have s2 : uN (gJ (sZ (sJ (sI τ 101 (plN a k) (gI τ 13 30)) 102 (plN a k) (gJ (sI τ 101 (plN a k) (gI τ 13 30)) 14 30)) 103 (plN a k) false) 102 (plN a k)) = R.2.2 := by
    rw [gJ_sZ, gJ_sJ, if_pos rfl, if_pos rfl]
    exact hf
  have s3 : gZ (sZ (sJ (sI τ 101 (plN a k) (gI τ 13 30)) 102 (plN a k) (gJ (sI τ 101 (plN a k) (gI τ 13 30)) 14 30)) 103 (plN a k) false) 103 (plN a k) = false := by
    rw [gZ_sZ, if_pos rfl, if_pos rfl]
  generalize sZ (sJ (sI τ 101 (plN a k) (gI τ 13 30)) 102 (plN a k) (gJ (sI τ 101 (plN a k) (gI τ 13 30)) 14 30)) 103 (plN a k) false = s at *
  refine ⟨?_, fun j y q => fI j y (by omega), fun j y q => fJ j y (by omega), fun j y q => fZ j y (by omega)⟩
  refine (RM_mk (fun j hj => ?_) (fun i hi => ?_) (fun i hi => ?_) (?_) (?_) (?_) (?_) (?_) (?_) (?_) (?_) (?_))
  · rw [fI 100 j (by omega)]
    exact h.m j hj
  · show RegIs s 101 102 i (updt a.r (plN a k) R i)
    by_cases z : i = plN a k
    · rw [z, updt_self]
      exact ⟨s1, s2, pR⟩
    · rw [updt_ne _ _ z]
      obtain ⟨h1, h2, h3⟩ := h.r i hi
      exact ⟨by rw [fI 101 i (by omega)]; exact h1, by rw [fJ 102 i (by omega)]; exact h2, h3⟩
  · show gZ s 103 i = updt a.e (plN a k) false i
    by_cases z : i = plN a k
    · rw [z, updt_self]
      exact s3
    · rw [updt_ne _ _ z, fZ 103 i (by omega)]
      exact h.e i hi
  · rw [fI 1 30 (by omega)]; exact h.top
  · rw [fI 2 30 (by omega)]; exact h.w
  · rw [fI 3 30 (by omega)]; exact h.told
  · rw [fI 4 30 (by omega)]; exact h.c
  · rw [fI 5 30 (by omega)]; exact h.kc
  · rw [fI 6 30 (by omega)]; exact h.kp
  · rw [fI 7 30 (by omega)]; exact h.ko
  · rw [fI 8 30 (by omega)]; exact h.now
  · exact Byt_eq (fun k => fI 114 k (by omega)) h.byt
/-! a number is taken away -/
theorem sI_RC {a b : Ab} {σ : St} {k o : Nat} {v : Int32} (h : RC a σ) (hm : b.m = a.m) (hr : b.r = a.r) (he : b.e = a.e) (hk : k ≤ 7) (top : gI (sI σ k o v) 0 0 = nI b.top) (w : gI (sI σ k o v) 6 3 = nI b.w) (told : gI (sI σ k o v) 1 0 = nI b.told) (c : gI (sI σ k o v) 2 0 = nI (cndN b.c0 b.c1 b.c2 b.c3)) (kc : gI (sI σ k o v) 3 0 = nI b.kc) (kp : gI (sI σ k o v) 4 0 = nI b.kp) (ko : gI (sI σ k o v) 5 0 = nI b.ko) (now : gI (sI σ k o v) 7 3 = nI b.now) : RC b (sI σ k o v) := RC_mk
  (fun j hj => by
    rw [hm, gI_sI, if_neg (by omega)]
    exact h.m j hj)
  (fun i hi => by
    rw [hr]
    obtain ⟨h1, h2, h3, h4⟩ := h.r i hi
    exact ⟨h1, by rw [gI_sI, if_neg (by omega)]; exact h2, h3, h4⟩)
  (fun i hi => by
    rw [he]
    exact h.e i hi)
  (top)
  (w)
  (told)
  (c)
  (kc)
  (kp)
  (ko)
  (now)
theorem sI_RM {a b : Ab} {τ : St} {k o : Nat} {v : Int32} (h : RM a τ) (hm : b.m = a.m) (hr : b.r = a.r) (he : b.e = a.e) (hk : k ≤ 30) (top : gI (sI τ k o v) 1 30 = nI b.top) (w : gI (sI τ k o v) 2 30 = nI b.w) (told : gI (sI τ k o v) 3 30 = nI b.told) (c : gI (sI τ k o v) 4 30 = nI (cndN b.c0 b.c1 b.c2 b.c3)) (kc : gI (sI τ k o v) 5 30 = nI b.lc) (kp : gI (sI τ k o v) 6 30 = nI b.lp) (ko : gI (sI τ k o v) 7 30 = nI b.lo) (now : gI (sI τ k o v) 8 30 = nI b.now) : RM b (sI τ k o v) := RM_mk
  (fun j hj => by
    rw [hm, gI_sI, if_neg (by omega)]
    exact h.m j hj)
  (fun i hi => by
    rw [hr]
    obtain ⟨h1, h2, h3⟩ := h.r i hi
    exact ⟨by rw [gI_sI, if_neg (by omega)]; exact h1, h2, h3⟩)
  (fun i hi => by
    rw [he]
    exact h.e i hi)
  (top)
  (w)
  (told)
  (c)
  (kc)
  (kp)
  (ko)
  (now)
  (Byt_eq (fun x => by rw [gI_sI, if_neg (by omega)]) h.byt)
theorem eq_gI {σ : St} {k o j x : Nat} {v : Int32} (h : k ≠ j) : gI (sI σ k o v) j x = gI σ j x := by rw [gI_sI, if_neg (fun e => h e.symm)]
theorem self_gI (σ : St) (k o : Nat) (v : Int32) : gI (sI σ k o v) k o = v := by rw [gI_sI, if_pos rfl, if_pos rfl]
theorem top_RC {a : Ab} {σ : St} (h : RC a σ) (n : Nat) : RC (Ab.mk17 a.m a.r a.e (n) a.w a.told a.c0 a.c1 a.c2 a.c3 a.kc a.kp a.ko a.lc a.lp a.lo a.now) (sI σ 0 0 (nI n)) := sI_RC h rfl rfl rfl (by decide) (self_gI _ _ _ _) (by rw [eq_gI (by decide)]; exact h.w) (by rw [eq_gI (by decide)]; exact h.told) (by rw [eq_gI (by decide)]; exact h.c) (by rw [eq_gI (by decide)]; exact h.kc) (by rw [eq_gI (by decide)]; exact h.kp) (by rw [eq_gI (by decide)]; exact h.ko) (by rw [eq_gI (by decide)]; exact h.now)
theorem top_RM {a : Ab} {τ : St} (h : RM a τ) (n : Nat) : RM (Ab.mk17 a.m a.r a.e (n) a.w a.told a.c0 a.c1 a.c2 a.c3 a.kc a.kp a.ko a.lc a.lp a.lo a.now) (sI τ 1 30 (nI n)) := sI_RM h rfl rfl rfl (by decide) (self_gI _ _ _ _) (by rw [eq_gI (by decide)]; exact h.w) (by rw [eq_gI (by decide)]; exact h.told) (by rw [eq_gI (by decide)]; exact h.c) (by rw [eq_gI (by decide)]; exact h.kc) (by rw [eq_gI (by decide)]; exact h.kp) (by rw [eq_gI (by decide)]; exact h.ko) (by rw [eq_gI (by decide)]; exact h.now)
theorem emp_RC {a : Ab} {σ : St} (h : RC a σ) (i : Nat) (b : Bool) : RC (Ab.mk17 a.m a.r (updt a.e i b) a.top a.w a.told a.c0 a.c1 a.c2 a.c3 a.kc a.kp a.ko a.lc a.lp a.lo a.now) (sZ σ 101 i b) := RC_mk
  (h.m)
  (fun j hj => by
    obtain ⟨h1, h2, h3, h4⟩ := h.r j hj
    exact ⟨by rw [gZ_sZ, if_neg (by decide)]; exact h1, h2, h3, h4⟩)
  (fun j hj => by
    show gZ (sZ σ 101 i b) 101 j = updt a.e i b j
    rw [gZ_sZ, if_pos rfl]
    unfold updt
    split
    · rfl
    · exact h.e j hj)
  (h.top)
  (h.w)
  (h.told)
  (h.c)
  (h.kc)
  (h.kp)
  (h.ko)
  (h.now)
theorem emp_RM {a : Ab} {τ : St} (h : RM a τ) (i : Nat) (b : Bool) : RM (Ab.mk17 a.m a.r (updt a.e i b) a.top a.w a.told a.c0 a.c1 a.c2 a.c3 a.kc a.kp a.ko a.lc a.lp a.lo a.now) (sZ τ 103 i b) := RM_mk
  (h.m)
  (h.r)
  (fun j hj => by
    show gZ (sZ τ 103 i b) 103 j = updt a.e i b j
    rw [gZ_sZ, if_pos rfl]
    unfold updt
    split
    · rfl
    · exact h.e j hj)
  (h.top)
  (h.w)
  (h.told)
  (h.c)
  (h.kc)
  (h.kp)
  (h.ko)
  (h.now)
  (h.byt)
theorem pop_C {K : K6} {a : Ab} {σ : St} (h : RC a σ) (ha : AOK K a) : RC (popA a) (f_PS_pop σ) := by
  have t := ha.top
  have j : jat (nI a.top) = a.top := nI_clamp (by omega)
  unfold f_PS_pop
  try dsimp only
  rw [h.top, j]
  have h1 := emp_RC h a.top true
  have ha1 : AOK K (Ab.mk17 a.m a.r (updt a.e a.top true) a.top a.w a.told a.c0 a.c1 a.c2 a.c3 a.kc a.kp a.ko a.lc a.lp a.lo a.now) := (AOK_mk ha.m ha.r ha.top ha.w ha.told ha.kc ha.kp ha.ko ha.lc ha.lp ha.lo ha.now ha.kk)
  have p := place_C h1 ha1 (k := 1) (by decide)
  try dsimp only
  rw [show (1 : Int32) = nI 1 from rfl, p]
  exact top_RC h1 _
theorem pop_M {K : K6} {a : Ab} {τ : St} (h : RM a τ) (ha : AOK K a) : RM (popA a) (f_M_pop τ) ∧ (∀ j y, j ≠ 1 → gI (f_M_pop τ) j y = gI τ j y) ∧ (∀ j y, gJ (f_M_pop τ) j y = gJ τ j y) ∧ (∀ j y, j ≠ 103 → gZ (f_M_pop τ) j y = gZ τ j y) := by
  have t := ha.top
  have j : jat (nI a.top) = a.top := nI_clamp (by omega)
  have h1 := emp_RM h a.top true
  have e : jrem (nI a.top + 1) 8 = nI ((a.top + 1) % 8) := by
    rw [nI_1]
    exact pk_rem (d := 8) (by omega) (by decide) (by decide)
  have g : gI (sZ τ 103 a.top true) 1 30 = nI a.top := h.top
  unfold f_M_pop
  try dsimp only
  rw [h.top, j]
  try dsimp only
  rw [g, e]
  exact ⟨top_RM h1 _, fun j y q => by rw [eq_gI (by omega), gI_sZ], fun j y => rfl, fun j y q => by
    show gZ (sZ τ 103 a.top true) j y = _
    rw [gZ_sZ, if_neg q]⟩
