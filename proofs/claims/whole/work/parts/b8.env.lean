/-! environments and whole states -/
theorem RC_100 {a : Ab} {σ τ : St} {m : Nat → Nat} (h : RC a σ) (f : fr100 σ τ) (hM : MB τ m) : RC (Ab.mk17 (m) a.r a.e a.top a.w a.told a.c0 a.c1 a.c2 a.c3 a.kc a.kp a.ko a.lc a.lp a.lo a.now) τ := RC_mk
  (hM)
  (fun i hi => by
    obtain ⟨h1, h2, h3, h4⟩ := h.r i hi
    exact ⟨by rw [f.2.2 15 _]; exact h1, by rw [f.1 16 _ (by decide)]; exact h2, by rw [f.2.1 17 _]; exact h3, h4⟩)
  (fun i hi => by rw [f.2.2 101 i]; exact h.e i hi)
  (by rw [f.1 0 0 (by decide)]; exact h.top)
  (by rw [f.1 6 3 (by decide)]; exact h.w)
  (by rw [f.1 1 0 (by decide)]; exact h.told)
  (by rw [f.1 2 0 (by decide)]; exact h.c)
  (by rw [f.1 3 0 (by decide)]; exact h.kc)
  (by rw [f.1 4 0 (by decide)]; exact h.kp)
  (by rw [f.1 5 0 (by decide)]; exact h.ko)
  (by rw [f.1 7 3 (by decide)]; exact h.now)
theorem RM_100 {a : Ab} {τ ρ : St} {m : Nat → Nat} (h : RM a τ) (f : fr100 τ ρ) (hM : RBy ρ m) : RM (Ab.mk17 (m) a.r a.e a.top a.w a.told a.c0 a.c1 a.c2 a.c3 a.kc a.kp a.ko a.lc a.lp a.lo a.now) ρ := RM_mk
  (hM)
  (fun i hi => by
    obtain ⟨h1, h2, h3⟩ := h.r i hi
    exact ⟨by rw [f.1 101 i (by decide)]; exact h1, by rw [f.2.1 102 i]; exact h2, h3⟩)
  (fun i hi => by rw [f.2.2 103 i]; exact h.e i hi)
  (by rw [f.1 1 30 (by decide)]; exact h.top)
  (by rw [f.1 2 30 (by decide)]; exact h.w)
  (by rw [f.1 3 30 (by decide)]; exact h.told)
  (by rw [f.1 4 30 (by decide)]; exact h.c)
  (by rw [f.1 5 30 (by decide)]; exact h.kc)
  (by rw [f.1 6 30 (by decide)]; exact h.kp)
  (by rw [f.1 7 30 (by decide)]; exact h.ko)
  (by rw [f.1 8 30 (by decide)]; exact h.now)
  (Byt_eq (fun k => f.1 114 k (by decide)) h.byt)
theorem fr100_I (σ : St) (x : Nat) (v : Int32) : fr100 σ (sI σ 100 x v) := ⟨fun k y q => eq_gI (fun e => q e.symm), fun _ _ => rfl, fun _ _ => rfl⟩
theorem putmm_lt {m : Nat → Nat} (h : ∀ k, m k < 256) (f n V : Nat) : ∀ k, putm m f n V k < 256 := fun k => by
  unfold putm
  split
  · exact Nat.mod_lt _ (by decide)
  · exact h k
theorem AOK_m {K : K6} {a : Ab} (h : AOK K a) {m : Nat → Nat} (hm : ∀ k, m k < 256) : AOK K (Ab.mk17 (m) a.r a.e a.top a.w a.told a.c0 a.c1 a.c2 a.c3 a.kc a.kp a.ko a.lc a.lp a.lo a.now) := (AOK_mk (hm) h.r h.top h.w h.told h.kc h.kp h.ko h.lc h.lp h.lo h.now h.kk)
theorem setWord_M {τ : St} {m : Nat → Nat} (h : RBy τ m) {k V : Nat} {kk v : Int32} (hk : k ≤ 92) (hV : V < 2147483648) (ek : kk = nI k) (ev : v = nI V) : fr100 τ (f_M_setWord τ kk v) ∧ RBy (f_M_setWord τ kk v) (putm m k 2 V) := by
  have j1 : jat (nI k) = k := nI_clamp (by omega)
  have j2 : jat (nI k + 1) = k + 1 := by
    rw [nI_1]
    exact nI_clamp (by omega)
  have e1 : jrem (nI V) 256 = nI (V % 256) := pk_rem (d := 256) (by omega) (by decide) (by decide)
  have e2 : nI V / 256 = nI (V / 256) := pk_div (d := 256) (by omega) (by decide) (by decide)
  have e3 : jrem (nI (V / 256)) 256 = nI (V / 256 % 256) := pk_rem (d := 256) (by omega) (by decide) (by decide)
  unfold f_M_setWord
  try dsimp only
  rw [ek, ev, j1, j2, e1, e2, e3]
  refine ⟨fr100_trans (fr100_I _ _ _) (fr100_I _ _ _), fun x hx => ?_⟩
  try dsimp only
  unfold putm
  rw [gI_sI, if_pos rfl]
  by_cases q : x = k + 1
  · rw [if_pos q, if_pos ⟨by omega, by omega⟩, show x - k = 1 by omega, Nat.pow_one]
  · rw [if_neg q, gI_sI, if_pos rfl]
    by_cases q2 : x = k
    · rw [if_pos q2, if_pos ⟨by omega, by omega⟩, show x - k = 0 by omega, Nat.pow_zero, Nat.div_one]
    · rw [if_neg q2, if_neg (by omega)]
      exact h x hx
theorem putWord_C {σ : St} {m : Nat → Nat} (h : MB σ m) {k V : Nat} {kk v : Int32} (hk : k ≤ 92) (hV : V < 2147483648) (ek : kk = nI k) (ev : v = nI V) : fr100 σ (f_Mem_put σ kk 2 (Int32.toInt64 v)) ∧ MB (f_Mem_put σ kk 2 (Int32.toInt64 v)) (putm m k 2 V) := by
  obtain ⟨k1, k2⟩ := put_at h k 2 (F := kk) (N := 2) ek rfl (Int32.toInt64 v) (by decide) (by omega)
  rw [ev, uN_nI hV] at k1
  rw [ev] at k2 ⊢
  exact ⟨k2, k1⟩
theorem putm_mod (m : Nat → Nat) (f V : Nat) : putm m f 2 (V % 65536) = putm m f 2 V := by
  funext k
  unfold putm
  by_cases c : f ≤ k ∧ k < f + 2
  · rw [if_pos c, if_pos c]
    rcases (show k - f = 0 ∨ k - f = 1 by omega) with z | z <;> rw [z]
    · rw [Nat.pow_zero, Nat.div_one, Nat.div_one]
      omega
    · rw [Nat.pow_one]
      omega
  · rw [if_neg c, if_neg c]
def e1m (a : Ab) : Nat → Nat := putm a.m 0 2 a.w
def e2m (a : Ab) : Nat → Nat := putm (e1m a) 2 2 (statN a)
def e3m (a : Ab) : Nat → Nat := putm (e2m a) 4 2 (tagsN a 8)
def e4m (a : Ab) : Nat → Nat := putm (e3m a) 6 2 a.kp
def e5m (a : Ab) : Nat → Nat := putm (e4m a) 8 2 (a.kp / 65536 * 4096 + a.kc)
def e6m (a : Ab) : Nat → Nat := putm (e5m a) 10 2 a.ko
def e7m (a : Ab) : Nat → Nat := putm (e6m a) 12 2 (a.ko / 65536 * 4096)
theorem e7m_lt {K : K6} {a : Ab} (h : AOK K a) : ∀ k, e7m a k < 256 := putmm_lt (putmm_lt (putmm_lt (putmm_lt (putmm_lt (putmm_lt (putmm_lt h.m _ _ _) _ _ _) _ _ _) _ _ _) _ _ _) _ _ _) _ _ _
theorem RC_1m {a : Ab} {m n : Nat → Nat} {σ τ : St} (h : RC (Ab.mk17 m a.r a.e a.top a.w a.told a.c0 a.c1 a.c2 a.c3 a.kc a.kp a.ko a.lc a.lp a.lo a.now) σ) (f : fr100 σ τ) (hM : MB τ n) : RC (Ab.mk17 n a.r a.e a.top a.w a.told a.c0 a.c1 a.c2 a.c3 a.kc a.kp a.ko a.lc a.lp a.lo a.now) τ := RC_100 (a := (Ab.mk17 m a.r a.e a.top a.w a.told a.c0 a.c1 a.c2 a.c3 a.kc a.kp a.ko a.lc a.lp a.lo a.now)) h f hM
theorem RM_1m {a : Ab} {m n : Nat → Nat} {σ τ : St} (h : RM (Ab.mk17 m a.r a.e a.top a.w a.told a.c0 a.c1 a.c2 a.c3 a.kc a.kp a.ko a.lc a.lp a.lo a.now) σ) (f : fr100 σ τ) (hM : RBy τ n) : RM (Ab.mk17 n a.r a.e a.top a.w a.told a.c0 a.c1 a.c2 a.c3 a.kc a.kp a.ko a.lc a.lp a.lo a.now) τ := RM_100 (a := (Ab.mk17 m a.r a.e a.top a.w a.told a.c0 a.c1 a.c2 a.c3 a.kc a.kp a.ko a.lc a.lp a.lo a.now)) h f hM
theorem tagsN_m (a : Ab) (m : Nat → Nat) : ∀ k, tagsN (Ab.mk17 m a.r a.e a.top a.w a.told a.c0 a.c1 a.c2 a.c3 a.kc a.kp a.ko a.lc a.lp a.lo a.now) k = tagsN a k
  | 0 => rfl
  | k + 1 => by
    show 4 * tagsN (Ab.mk17 m a.r a.e a.top a.w a.told a.c0 a.c1 a.c2 a.c3 a.kc a.kp a.ko a.lc a.lp a.lo a.now) k + tagN (a.r (7 - k)) (a.e (7 - k)) = 4 * tagsN a k + tagN (a.r (7 - k)) (a.e (7 - k))
    rw [tagsN_m a m k]
theorem tagsE_C {a : Ab} {m : Nat → Nat} {s : St} (h : RC (Ab.mk17 m a.r a.e a.top a.w a.told a.c0 a.c1 a.c2 a.c3 a.kc a.kp a.ko a.lc a.lp a.lo a.now) s) : f_PS_tags s = nI (tagsN a 8) := by
  rw [tags_C h, tagsN_m]
theorem tagsE_M {a : Ab} {m : Nat → Nat} {s : St} (h : RM (Ab.mk17 m a.r a.e a.top a.w a.told a.c0 a.c1 a.c2 a.c3 a.kc a.kp a.ko a.lc a.lp a.lo a.now) s) : f_M_tags s = nI (tagsN a 8) := by
  rw [tags_M h, tagsN_m]
theorem seg_C {p : Nat} (hp : p < 1048576) : jshl (jshr (nI p) 16) 12 = nI (p / 65536 * 4096) := by
  have e1 : jshr (nI p) 16 = nI (p / 2 ^ 16) := shrN (by omega) 16 (by decide)
  have e2 : jshl (nI (p / 2 ^ 16)) 12 = nI (p / 2 ^ 16 * 2 ^ 12) := pk_shlN _ 12 (by decide) (by omega)
  rw [e1, e2]
theorem wEnv_C {K : K6} {a : Ab} {σ : St} (h : RC a σ) (ha : AOK K a) : RC (Ab.mk17 (e7m a) a.r a.e a.top a.w a.told a.c0 a.c1 a.c2 a.c3 a.kc a.kp a.ko a.lc a.lp a.lo a.now) (f_PS_writeEnvironment σ) := by
  have w := ha.w
  have c := ha.kc
  have p := ha.kp
  have o := ha.ko
  have sl := statN_lt ha
  have tl := tags8 a
  unfold f_PS_writeEnvironment
  try dsimp only
  obtain ⟨f1, m1⟩ := putWord_C h.m (k := 0) (V := a.w) (kk := 0) (by decide) (by omega) rfl h.w
  have h1 : RC (Ab.mk17 (e1m a) a.r a.e a.top a.w a.told a.c0 a.c1 a.c2 a.c3 a.kc a.kp a.ko a.lc a.lp a.lo a.now) _ := RC_100 h f1 m1
  generalize f_Mem_put σ 0 2 (Int32.toInt64 (gI σ 6 3)) = s1 at *
  have a1 : AOK K (Ab.mk17 (e1m a) a.r a.e a.top a.w a.told a.c0 a.c1 a.c2 a.c3 a.kc a.kp a.ko a.lc a.lp a.lo a.now) := AOK_m ha (putmm_lt ha.m _ _ _)
  have q2 := status_C h1 a1
  have q2' : f_PS_status s1 = nI (statN a) := q2
  obtain ⟨f2, m2⟩ := putWord_C h1.m (k := 2) (V := statN a) (kk := 2) (by decide) (by omega) rfl q2'
  have h2 : RC (Ab.mk17 (e2m a) a.r a.e a.top a.w a.told a.c0 a.c1 a.c2 a.c3 a.kc a.kp a.ko a.lc a.lp a.lo a.now) _ := RC_1m h1 f2 m2
  generalize f_Mem_put s1 2 2 (Int32.toInt64 (f_PS_status s1)) = s2 at *
  obtain ⟨f3, m3⟩ := putWord_C h2.m (k := 4) (V := tagsN a 8) (kk := 4) (by decide) (by omega) rfl (show f_PS_tags s2 = nI (tagsN a 8) from tagsE_C h2)
  have h3 : RC (Ab.mk17 (e3m a) a.r a.e a.top a.w a.told a.c0 a.c1 a.c2 a.c3 a.kc a.kp a.ko a.lc a.lp a.lo a.now) _ := RC_1m h2 f3 m3
  generalize f_Mem_put s2 4 2 (Int32.toInt64 (f_PS_tags s2)) = s3 at *
  obtain ⟨f4, m4⟩ := putWord_C h3.m (k := 6) (V := a.kp) (kk := 6) (by decide) (by omega) rfl h3.kp
  have h4 : RC (Ab.mk17 (e4m a) a.r a.e a.top a.w a.told a.c0 a.c1 a.c2 a.c3 a.kc a.kp a.ko a.lc a.lp a.lo a.now) _ := RC_1m h3 f4 m4
  generalize f_Mem_put s3 6 2 (Int32.toInt64 (gI s3 4 0)) = s4 at *
  have v5 : jshl (jshr (gI s4 4 0) 16) 12 ||| gI s4 3 0 = nI (a.kp / 65536 * 4096 + a.kc) := by
    have q1 : gI s4 4 0 = nI a.kp := h4.kp
    have q2 : gI s4 3 0 = nI a.kc := h4.kc
    rw [q1, q2, seg_C p, nI_or _ _ (by omega) (by omega)]
    congr 1
    exact or_add (k := 12) (by omega)
  obtain ⟨f5, m5⟩ := putWord_C h4.m (k := 8) (V := a.kp / 65536 * 4096 + a.kc) (kk := 8) (by decide) (by omega) rfl v5
  have h5 : RC (Ab.mk17 (e5m a) a.r a.e a.top a.w a.told a.c0 a.c1 a.c2 a.c3 a.kc a.kp a.ko a.lc a.lp a.lo a.now) _ := RC_1m h4 f5 m5
  generalize f_Mem_put s4 8 2 (Int32.toInt64 (jshl (jshr (gI s4 4 0) 16) 12 ||| gI s4 3 0)) = s5 at *
  obtain ⟨f6, m6⟩ := putWord_C h5.m (k := 10) (V := a.ko) (kk := 10) (by decide) (by omega) rfl h5.ko
  have h6 : RC (Ab.mk17 (e6m a) a.r a.e a.top a.w a.told a.c0 a.c1 a.c2 a.c3 a.kc a.kp a.ko a.lc a.lp a.lo a.now) _ := RC_1m h5 f6 m6
  generalize f_Mem_put s5 10 2 (Int32.toInt64 (gI s5 5 0)) = s6 at *
  have v7 : jshl (jshr (gI s6 5 0) 16) 12 = nI (a.ko / 65536 * 4096) := by
    have q1 : gI s6 5 0 = nI a.ko := h6.ko
    rw [q1, seg_C o]
  obtain ⟨f7, m7⟩ := putWord_C h6.m (k := 12) (V := a.ko / 65536 * 4096) (kk := 12) (by decide) (by omega) rfl v7
  exact RC_1m h6 f7 m7
theorem wEnv_M {K : K6} {a : Ab} {τ : St} (h : RM a τ) (ha : AOK K a) (hk : a.lc = a.kc ∧ a.lp = a.kp ∧ a.lo = a.ko) : RM (Ab.mk17 (e7m a) a.r a.e a.top a.w a.told a.c0 a.c1 a.c2 a.c3 a.kc a.kp a.ko a.lc a.lp a.lo a.now) (f_M_writeEnvironment τ) := by
  obtain ⟨k1, k2, k3⟩ := hk
  have w := ha.w
  have c := ha.kc
  have p := ha.kp
  have o := ha.ko
  have sl := statN_lt ha
  have tl := tags8 a
  have dv : ∀ x, x < 1048576 → nI x / 65536 = nI (x / 65536) := fun x hx => pk_div (d := 65536) (by omega) (by decide) (by decide)
  have rv : ∀ x, x < 1048576 → jrem (nI x) 65536 = nI (x % 65536) := fun x hx => pk_rem (d := 65536) (by omega) (by decide) (by decide)
  have mv : ∀ x, nI x * 4096 = nI (x * 4096) := fun x => pk_mul x 4096
  unfold f_M_writeEnvironment
  try dsimp only
  obtain ⟨f1, m1⟩ := setWord_M h.m (k := 0) (V := a.w) (kk := 0) (by decide) (by omega) rfl h.w
  have h1 : RM (Ab.mk17 (e1m a) a.r a.e a.top a.w a.told a.c0 a.c1 a.c2 a.c3 a.kc a.kp a.ko a.lc a.lp a.lo a.now) _ := RM_100 h f1 m1
  generalize f_M_setWord τ 0 (gI τ 2 30) = s1 at *
  have a1 : AOK K (Ab.mk17 (e1m a) a.r a.e a.top a.w a.told a.c0 a.c1 a.c2 a.c3 a.kc a.kp a.ko a.lc a.lp a.lo a.now) := AOK_m ha (putmm_lt ha.m _ _ _)
  have q2 := status_M h1 a1
  have q2' : f_M_status s1 = nI (statN a) := q2
  obtain ⟨f2, m2⟩ := setWord_M h1.m (k := 2) (V := statN a) (kk := 2) (by decide) (by omega) rfl q2'
  have h2 : RM (Ab.mk17 (e2m a) a.r a.e a.top a.w a.told a.c0 a.c1 a.c2 a.c3 a.kc a.kp a.ko a.lc a.lp a.lo a.now) _ := RM_1m h1 f2 m2
  generalize f_M_setWord s1 2 (f_M_status s1) = s2 at *
  obtain ⟨f3, m3⟩ := setWord_M h2.m (k := 4) (V := tagsN a 8) (kk := 4) (by decide) (by omega) rfl (show f_M_tags s2 = nI (tagsN a 8) from tagsE_M h2)
  have h3 : RM (Ab.mk17 (e3m a) a.r a.e a.top a.w a.told a.c0 a.c1 a.c2 a.c3 a.kc a.kp a.ko a.lc a.lp a.lo a.now) _ := RM_1m h2 f3 m3
  generalize f_M_setWord s2 4 (f_M_tags s2) = s3 at *
  have v4 : jrem (gI s3 6 30) 65536 = nI (a.kp % 65536) := by
    have q1 : gI s3 6 30 = nI a.lp := h3.kp
    rw [q1, k2, rv _ p]
  obtain ⟨f4, m4⟩ := setWord_M h3.m (k := 6) (V := a.kp % 65536) (kk := 6) (by decide) (by omega) rfl v4
  rw [putm_mod] at m4
  have h4 : RM (Ab.mk17 (e4m a) a.r a.e a.top a.w a.told a.c0 a.c1 a.c2 a.c3 a.kc a.kp a.ko a.lc a.lp a.lo a.now) _ := RM_1m h3 f4 m4
  generalize f_M_setWord s3 6 (jrem (gI s3 6 30) 65536) = s4 at *
  have v5 : (gI s4 6 30 / 65536) * 4096 + gI s4 5 30 = nI (a.kp / 65536 * 4096 + a.kc) := by
    have q1 : gI s4 6 30 = nI a.lp := h4.kp
    have q2 : gI s4 5 30 = nI a.lc := h4.kc
    rw [q1, q2, k1, k2, dv _ p, mv, nI_add]
  obtain ⟨f5, m5⟩ := setWord_M h4.m (k := 8) (V := a.kp / 65536 * 4096 + a.kc) (kk := 8) (by decide) (by omega) rfl v5
  have h5 : RM (Ab.mk17 (e5m a) a.r a.e a.top a.w a.told a.c0 a.c1 a.c2 a.c3 a.kc a.kp a.ko a.lc a.lp a.lo a.now) _ := RM_1m h4 f5 m5
  generalize f_M_setWord s4 8 ((gI s4 6 30 / 65536) * 4096 + gI s4 5 30) = s5 at *
  have v6 : jrem (gI s5 7 30) 65536 = nI (a.ko % 65536) := by
    have q1 : gI s5 7 30 = nI a.lo := h5.ko
    rw [q1, k3, rv _ o]
  obtain ⟨f6, m6⟩ := setWord_M h5.m (k := 10) (V := a.ko % 65536) (kk := 10) (by decide) (by omega) rfl v6
  rw [putm_mod] at m6
  have h6 : RM (Ab.mk17 (e6m a) a.r a.e a.top a.w a.told a.c0 a.c1 a.c2 a.c3 a.kc a.kp a.ko a.lc a.lp a.lo a.now) _ := RM_1m h5 f6 m6
  generalize f_M_setWord s5 10 (jrem (gI s5 7 30) 65536) = s6 at *
  have v7 : (gI s6 7 30 / 65536) * 4096 = nI (a.ko / 65536 * 4096) := by
    have q1 : gI s6 7 30 = nI a.lo := h6.ko
    rw [q1, k3, dv _ o, mv]
  obtain ⟨f7, m7⟩ := setWord_M h6.m (k := 12) (V := a.ko / 65536 * 4096) (kk := 12) (by decide) (by omega) rfl v7
  exact RM_1m h6 f7 m7
/-! the beginning -/
def begA (a : Ab) : Ab := (Ab.mk17 a.m a.r (fun _ => true) (0) (1023) (0) (false) (false) (false) (false) (0) (0) (0) (0) (0) (0) a.now)
theorem sI_mem {σ : St} {m : Nat → Nat} {k o : Nat} {v : Int32} (h : MB σ m) (hk : k ≠ 100) : MB (sI σ k o v) m := fun j hj => by rw [eq_gI hk]; exact h j hj
theorem ini_loop {σ : St} : ∃ s, (lpn b_PS_beInitial_27 (upf 8 0) (0, σ)).2 = s ∧ (∀ i, i < 8 → gZ s 101 i = true) ∧ (∀ k x, gI s k x = gI σ k x) ∧ (∀ k x, gJ s k x = gJ σ k x) ∧ (∀ k x, k ≠ 101 → gZ s k x = gZ σ k x) := by
  refine ⟨_, rfl, ?_⟩
  refine lpn_P (b := b_PS_beInitial_27) (fun i t => t.1 = nI i ∧ (∀ j, j < i → gZ t.2 101 j = true) ∧ (∀ k x, gI t.2 k x = gI σ k x) ∧ (∀ k x, gJ t.2 k x = gJ σ k x) ∧ (∀ k x, k ≠ 101 → gZ t.2 k x = gZ σ k x)) (fun y => (∀ i, i < 8 → gZ y.2 101 i = true) ∧ (∀ k x, gI y.2 k x = gI σ k x) ∧ (∀ k x, gJ y.2 k x = gJ σ k x) ∧ (∀ k x, k ≠ 101 → gZ y.2 k x = gZ σ k x)) 8 ?_ ?_ (by decide) ⟨rfl, fun j hj => by omega, fun _ _ => rfl, fun _ _ => rfl, fun _ _ _ => rfl⟩
  · intro i t hi ⟨t1, t2, t3, t4, t5⟩
    obtain ⟨v, s⟩ := t
    simp only at t1 t2 t3 t4 t5
    subst t1
    have c1 : ¬ (8 : Int32) ≤ nI i := nI_ge (b := 8) (by omega) (by decide)
    have j : jat (nI i) = i := nI_clamp (by omega)
    refine ⟨(nI (i + 1), sZ s 101 i true), ?_, rfl, fun x hx => ?_, t3, t4, fun k x q => ?_⟩
    · unfold b_PS_beInitial_27
      simp only [c1, if_false, j, nI_1]
    · show gZ (sZ s 101 i true) 101 x = true
      rw [gZ_sZ, if_pos rfl]
      by_cases q : x = i
      · rw [if_pos q]
      · rw [if_neg q]
        exact t2 x (by omega)
    · show gZ (sZ s 101 i true) k x = _
      rw [gZ_sZ, if_neg q]
      exact t5 k x q
  · intro t ⟨t1, t2, t3, t4, t5⟩
    obtain ⟨v, s⟩ := t
    simp only at t1 t2 t3 t4 t5
    subst t1
    have c1 : (8 : Int32) ≤ nI 8 := by decide
    refine ⟨(nI 8, s), ?_, t2, t3, t4, t5⟩
    unfold b_PS_beInitial_27
    simp only [c1, if_true]
theorem beg_loop {σ : St} : ∃ s, (lpn b_M_begin_24 (upf 8 0) (0, σ)).2 = s ∧ (∀ i, i < 8 → gZ s 103 i = true) ∧ (∀ k x, gI s k x = gI σ k x) ∧ (∀ k x, gJ s k x = gJ σ k x) ∧ (∀ k x, k ≠ 103 → gZ s k x = gZ σ k x) := by
  refine ⟨_, rfl, ?_⟩
  refine lpn_P (b := b_M_begin_24) (fun i t => t.1 = nI i ∧ (∀ j, j < i → gZ t.2 103 j = true) ∧ (∀ k x, gI t.2 k x = gI σ k x) ∧ (∀ k x, gJ t.2 k x = gJ σ k x) ∧ (∀ k x, k ≠ 103 → gZ t.2 k x = gZ σ k x)) (fun y => (∀ i, i < 8 → gZ y.2 103 i = true) ∧ (∀ k x, gI y.2 k x = gI σ k x) ∧ (∀ k x, gJ y.2 k x = gJ σ k x) ∧ (∀ k x, k ≠ 103 → gZ y.2 k x = gZ σ k x)) 8 ?_ ?_ (by decide) ⟨rfl, fun j hj => by omega, fun _ _ => rfl, fun _ _ => rfl, fun _ _ _ => rfl⟩
  · intro i t hi ⟨t1, t2, t3, t4, t5⟩
    obtain ⟨v, s⟩ := t
    simp only at t1 t2 t3 t4 t5
    subst t1
    have c1 : ¬ (8 : Int32) ≤ nI i := nI_ge (b := 8) (by omega) (by decide)
    have j : jat (nI i) = i := nI_clamp (by omega)
    refine ⟨(nI (i + 1), sZ s 103 i true), ?_, rfl, fun x hx => ?_, t3, t4, fun k x q => ?_⟩
    · unfold b_M_begin_24
      simp only [c1, if_false, j, nI_1]
    · show gZ (sZ s 103 i true) 103 x = true
      rw [gZ_sZ, if_pos rfl]
      by_cases q : x = i
      · rw [if_pos q]
      · rw [if_neg q]
        exact t2 x (by omega)
    · show gZ (sZ s 103 i true) k x = _
      rw [gZ_sZ, if_neg q]
      exact t5 k x q
  · intro t ⟨t1, t2, t3, t4, t5⟩
    obtain ⟨v, s⟩ := t
    simp only at t1 t2 t3 t4 t5
    subst t1
    have c1 : (8 : Int32) ≤ nI 8 := by decide
    refine ⟨(nI 8, s), ?_, t2, t3, t4, t5⟩
    unfold b_M_begin_24
    simp only [c1, if_true]
theorem ini_C {a : Ab} {σ : St} (h : RC a σ) : RC (begA a) (f_PS_beInitial σ) := by
  obtain ⟨s, s1, s2, s3, s4, s5⟩ := ini_loop (σ := sI (sI (sI (sI σ 6 3 1023) 1 0 0) 2 0 0) 0 0 0)
  unfold f_PS_beInitial
  try dsimp only
  rw [s1]
  refine (RC_mk (fun j hj => ?_) (fun i hi => ?_) (fun i hi => ?_) (?_) (?_) (?_) (?_) (?_) (?_) (?_) (?_))
  · rw [eq_gI (by decide), eq_gI (by decide), eq_gI (by decide), s3, eq_gI (by decide), eq_gI (by decide), eq_gI (by decide), eq_gI (by decide)]
    exact h.m j hj
  · obtain ⟨h1, h2, h3, h4⟩ := h.r i hi
    refine ⟨?_, ?_, ?_, h4⟩
    · show gZ s 15 (16 + i) = _
      rw [s5 15 _ (by decide)]
      exact h1
    · rw [eq_gI (by decide), eq_gI (by decide), eq_gI (by decide), s3, eq_gI (by decide), eq_gI (by decide), eq_gI (by decide), eq_gI (by decide)]
      exact h2
    · show uN (gJ s 17 (16 + i)) = _
      rw [s4]
      exact h3
  · show gZ s 101 i = true
    exact s2 i hi
  · rw [eq_gI (by decide), eq_gI (by decide), eq_gI (by decide), s3, self_gI]
    rfl
  · rw [eq_gI (by decide), eq_gI (by decide), eq_gI (by decide), s3, eq_gI (by decide), eq_gI (by decide), eq_gI (by decide), self_gI]
    rfl
  · rw [eq_gI (by decide), eq_gI (by decide), eq_gI (by decide), s3, eq_gI (by decide), eq_gI (by decide), self_gI]
    rfl
  · rw [eq_gI (by decide), eq_gI (by decide), eq_gI (by decide), s3, eq_gI (by decide), self_gI]
    rfl
  · rw [eq_gI (by decide), eq_gI (by decide), self_gI]
    rfl
  · rw [eq_gI (by decide), self_gI]
    rfl
  · rw [self_gI]
    rfl
  · rw [eq_gI (by decide), eq_gI (by decide), eq_gI (by decide), s3, eq_gI (by decide), eq_gI (by decide), eq_gI (by decide), eq_gI (by decide)]
    exact h.now
theorem beg_M {a : Ab} {τ : St} (h : RM a τ) : RM (begA a) (f_M_begin τ) := by
  obtain ⟨s, s1, s2, s3, s4, s5⟩ := beg_loop (σ := sI (sI (sI (sI τ 2 30 1023) 3 30 0) 4 30 0) 1 30 0)
  unfold f_M_begin
  try dsimp only
  rw [s1]
  refine (RM_mk (fun j hj => ?_) (fun i hi => ?_) (fun i hi => ?_) (?_) (?_) (?_) (?_) (?_) (?_) (?_) (?_) (?_))
  · rw [eq_gI (by decide), eq_gI (by decide), eq_gI (by decide), s3, eq_gI (by decide), eq_gI (by decide), eq_gI (by decide), eq_gI (by decide)]
    exact h.m j hj
  · obtain ⟨h1, h2, h3⟩ := h.r i hi
    refine ⟨?_, ?_, h3⟩
    · rw [eq_gI (by decide), eq_gI (by decide), eq_gI (by decide), s3, eq_gI (by decide), eq_gI (by decide), eq_gI (by decide), eq_gI (by decide)]
      exact h1
    · show uN (gJ s 102 i) = _
      rw [s4]
      exact h2
  · show gZ s 103 i = true
    exact s2 i hi
  · rw [eq_gI (by decide), eq_gI (by decide), eq_gI (by decide), s3, self_gI]
    rfl
  · rw [eq_gI (by decide), eq_gI (by decide), eq_gI (by decide), s3, eq_gI (by decide), eq_gI (by decide), eq_gI (by decide), self_gI]
    rfl
  · rw [eq_gI (by decide), eq_gI (by decide), eq_gI (by decide), s3, eq_gI (by decide), eq_gI (by decide), self_gI]
    rfl
  · rw [eq_gI (by decide), eq_gI (by decide), eq_gI (by decide), s3, eq_gI (by decide), self_gI]
    rfl
  · rw [eq_gI (by decide), eq_gI (by decide), self_gI]
    rfl
  · rw [eq_gI (by decide), self_gI]
    rfl
  · rw [self_gI]
    rfl
  · rw [eq_gI (by decide), eq_gI (by decide), eq_gI (by decide), s3, eq_gI (by decide), eq_gI (by decide), eq_gI (by decide), eq_gI (by decide)]
    exact h.now
  · refine Byt_eq (fun k => ?_) h.byt
    rw [eq_gI (by decide), eq_gI (by decide), eq_gI (by decide), s3, eq_gI (by decide), eq_gI (by decide), eq_gI (by decide), eq_gI (by decide)]
theorem AOK_beg {K : K6} {a : Ab} (h : AOK K a) : AOK (0, 0, 0, 0, 0, 0) (begA a) := AOK_mk
  (h.m)
  (h.r)
  (by show 0 < 8; decide)
  (by show 1023 < 65536; decide)
  (by show 0 < 64; decide)
  (by show 0 < 2048; decide)
  (by show 0 < 1048576; decide)
  (by show 0 < 1048576; decide)
  (by show 0 < 2048; decide)
  (by show 0 < 1048576; decide)
  (by show 0 < 1048576; decide)
  (h.now)
  (rfl)
