/-! stores, both sides -/
def mw4 (a1 : Int32) (s6 : St) : St :=
  let t2 : Int32 × St := lpn (b_M_write_138 a1) (upf (f_M_bytesOf a1) 0) (0, s6)
  if gI t2.2 11 30 = 2 then t2.2 else f_M_pop t2.2
def mw3 (a1 : Int32) (r1 : Int32 × St) : St :=
  let s5 : St := f_M_say r1.2 r1.1
  let t1 : Bool :=
      if gZ s5 9 30 = true then
        true
      else
        if jrem (r1.1 / 8) 2 = 1 then
          if jrem ((gI s5 2 30) / 8) 2 = 0 then
            true
          else
            f_M_write_b98 r1 s5
        else
          f_M_write_b98 r1 s5
  let s6 : St := sZ s5 9 30 t1
  if gZ s6 9 30 = true then
    s6
  else
    mw4 a1 s6
def mw2 (s2 : St) (a1 : Int32) : St :=
  let s3 : St := f_MC_control s2 (gI s2 2 30)
  let s4 : St := f_MC_set s3 0 (gI s3 13 30) (f_M_high (gJ s3 14 30)) (Int64.toInt32 (gJ s3 14 30))
  mw3 a1 (f_MC_write s4 a1 0)
set_option maxHeartbeats 200000 in
theorem mw_eq (τ : St) (a1 : Int32) : f_M_write τ a1 = (if gZ (f_M_want τ 0) 9 30 = true then f_M_want τ 0 else mw2 (f_M_takeX (f_M_want τ 0) 0) a1) := rfl
def stc2 (s2 : St) (a2 : Bool) : St :=
  if a2 = true then
    if f_Ctl_endsWriting s2 = true then
      s2
    else
      f_PS_pop s2
  else
    s2
set_option maxHeartbeats 200000 in
theorem stc_eq (σ : St) (a1 : Int32) (a2 : Bool) : f_PS_store σ a1 a2 = (if f_Ctl_ends (f_PS_need σ 0 12) = true then f_PS_need σ 0 12 else stc2 (f_Wr_write (f_PS_need σ 0 12) a1 12) a2) := rfl
set_option maxHeartbeats 200000 in
theorem mw2_M {K : K6} {b : Ab} {s : St} {fm : Nat} {A : Re} (b1 : AOK K b) (x5 : RM b s) (x4 : XIs s A) (hfm : fm ≤ 6) : ∃ r : Int32 × St, mw2 s (nI fm) = mw3 (nI fm) r ∧ r.1 = nI (writeS b.w fm A).1 ∧ frD s r.2 ∧ Byt r.2 ∧ (writeS b.w fm A).1 < 64 ∧ (endsW b.w (writeS b.w fm A).1 = false → ∀ k, k < (writeS b.w fm A).2.1 → gI r.2 114 k = nI ((writeS b.w fm A).2.2 k)) := by
  have k13 : gI (sI (sI s 37 45 0) 38 45 (nI b.w)) 13 30 = nI (topN A) := by
    rw [eq_gI (by decide), eq_gI (by decide)]
    exact x4.1
  have k14 : gJ (sI (sI s 37 45 0) 38 45 (nI b.w)) 14 30 = gJ s 14 30 := rfl
  have e : mw2 s (nI fm) = mw3 (nI fm) (f_MC_write (sJ (sI (sI (sI (sI s 37 45 0) 38 45 (nI b.w)) 37 45 0) 112 0 (nI (topN A))) 113 0 (gJ s 14 30)) (nI fm) 0) := by
    unfold mw2
    try dsimp only
    rw [x5.w, Ccontrol b1.w, k13, k14, Cset (topN_lt x4.2.2)]
  have f4 : frC s (sJ (sI (sI (sI (sI s 37 45 0) 38 45 (nI b.w)) 37 45 0) 112 0 (nI (topN A))) 113 0 (gJ s 14 30)) := frC_trans (frC_I _ 37 _ _ (by decide)) (frC_trans (frC_I _ 38 _ _ (by decide)) (frC_trans (frC_I _ 37 _ _ (by decide)) (frC_trans (frC_I _ 112 _ _ (by decide)) (frC_J _ 113 _ _ (by decide)))))
  have q112 : gI (sJ (sI (sI (sI (sI s 37 45 0) 38 45 (nI b.w)) 37 45 0) 112 0 (nI (topN A))) 113 0 (gJ s 14 30)) 112 0 = nI (topN A) := by rw [gI_sJ, self_gI]
  have q113 : uN (gJ (sJ (sI (sI (sI (sI s 37 45 0) 38 45 (nI b.w)) 37 45 0) 112 0 (nI (topN A))) 113 0 (gJ s 14 30)) 113 0) = A.2.2 := by
    rw [gJ_sJ, if_pos rfl, if_pos rfl]
    exact x4.2.1
  have q38 : gI (sJ (sI (sI (sI (sI s 37 45 0) 38 45 (nI b.w)) 37 45 0) 112 0 (nI (topN A))) 113 0 (gJ s 14 30)) 38 45 = nI b.w := by rw [gI_sJ, eq_gI (by decide), eq_gI (by decide), self_gI]
  generalize sJ (sI (sI (sI (sI s 37 45 0) 38 45 (nI b.w)) 37 45 0) 112 0 (nI (topN A))) 113 0 (gJ s 14 30) = t at *
  obtain ⟨o1, o2, o3, o4, o5⟩ := write_B (A := A) hfm q112 q113 x4.2.2 q38 b1.w (Byt_114 x5.byt f4)
  rw [e]
  generalize f_MC_write t (nI fm) 0 = r at *
  exact ⟨r, rfl, o1, frD_trans (frD_C f4) o2, o3, o4, o5⟩
set_option maxHeartbeats 200000 in
theorem mw3_M {K : K6} {b : Ab} {s : St} {fm T : Nat} {r : Int32 × St} (b1 : AOK K b) (x5 : RM b s) (ov : gZ s 9 30 = false) (o1 : r.1 = nI T) (fd : frD s r.2) (o4 : T < 64) : ∃ s6, mw3 (nI fm) r = (if endsW b.w T = true then s6 else mw4 (nI fm) s6) ∧ (∀ k x, (k < 8 ∨ (10 ≤ k ∧ k ≤ 12) ∨ (100 ≤ k ∧ k ≤ 103)) → gI s6 k x = gI s k x ∧ gJ s6 k x = gJ s k x ∧ gZ s6 k x = gZ s k x) ∧ gI s6 8 30 = nI (b.now ||| T) ∧ (∀ k, gI s6 114 k = gI r.2 114 k) := by
  have n6 := b1.now
  have z2 : gI r.2 2 30 = nI b.w := by rw [(fd 2 30 (by decide) (by decide)).1]; exact x5.w
  have z8 : gI r.2 8 30 = nI b.now := by rw [(fd 8 30 (by decide) (by decide)).1]; exact x5.now
  have z9 : gZ r.2 9 30 = false := by rw [(fd 9 30 (by decide) (by decide)).2.2]; exact ov
  have sy := say_M z2 b1.w o4
  rw [z8, z9, Bool.false_or, nI_or _ _ (by omega) (by omega), ← o1] at sy
  have t1 := over_t1 (s5 := f_M_say r.2 r.1) (r1 := r) b1.w o4 (by rw [sy, gI_sZ, eq_gI (by decide)]; exact z2) o1 (by rw [sy, gZ_sZ, if_pos rfl, if_pos rfl])
  refine ⟨sZ (sI r.2 8 30 (nI (b.now ||| T))) 9 30 (endsW b.w T), ?_, fun k x q => ?_, ?_, fun k => ?_⟩
  · unfold mw3
    try dsimp only
    rw [t1, sy, sZ_sZ, gZ_sZ, if_pos rfl, if_pos rfl]
  · obtain ⟨y1, y2, y3⟩ := fd k x (by omega) (by omega)
    refine ⟨?_, y2, ?_⟩
    · rw [gI_sZ, eq_gI (by omega)]
      exact y1
    · rw [gZ_sZ, if_neg (by omega)]
      exact y3
  · rw [gI_sZ, self_gI]
  · rw [gI_sZ, eq_gI (by decide)]
set_option maxHeartbeats 200000 in
theorem mw4_M {K : K6} {b : Ab} {s s6 : St} {fm rr n now : Nat} {bs : Nat → Nat} (b1 : AOK K b) (x5 : RM b s) (hn : f_M_bytesOf (nI fm) = nI n) (hn10 : n ≤ 10) (hnow : now < 64) (f6 : ∀ k x, (k < 8 ∨ (10 ≤ k ∧ k ≤ 12) ∨ (100 ≤ k ∧ k ≤ 103)) → gI s6 k x = gI s k x ∧ gJ s6 k x = gJ s k x ∧ gZ s6 k x = gZ s k x) (z8 : gI s6 8 30 = nI now) (bb : Byt s6) (hB : ∀ k, k < n → gI s6 114 k = nI (bs k)) (bl : ∀ k, bs k < 256) (g11 : gI s 11 30 = nI rr) (hr : rr < 8) (ok : AOK K (Ab.mk17 (newB b.m n bs) b.r b.e b.top b.w b.told b.c0 b.c1 b.c2 b.c3 b.kc b.kp b.ko b.lc b.lp b.lo now)) : RM (if rr = 2 then (Ab.mk17 (newB b.m n bs) b.r b.e b.top b.w b.told b.c0 b.c1 b.c2 b.c3 b.kc b.kp b.ko b.lc b.lp b.lo now) else popA (Ab.mk17 (newB b.m n bs) b.r b.e b.top b.w b.told b.c0 b.c1 b.c2 b.c3 b.kc b.kp b.ko b.lc b.lp b.lo now)) (mw4 (nI fm) s6) := by
  have r2 : (nI rr = 2) ↔ rr = 2 := nI_eq (b := 2) (by omega) (by decide)
  obtain ⟨l1, l2⟩ := copy_loop (τ := s6) (m := b.m) (bs := bs) hn hn10 hB (fun k hk => by rw [(f6 100 k (by omega)).1]; exact x5.m k hk)
  unfold mw4
  try dsimp only
  generalize (lpn (b_M_write_138 (nI fm)) (upf (f_M_bytesOf (nI fm)) 0) (0, s6)).2 = s7 at *
  have g11' : gI s7 11 30 = nI rr := by
    rw [l1.1 11 30 (by decide) (by decide), (f6 11 30 (by omega)).1]
    exact g11
  have rm := mem_RM (n := now) (m := newB b.m n bs) (ρ := s7) x5 (fun k x q => ⟨(l1.1 k x (by omega) (by omega)).trans (f6 k x (by omega)).1, (l1.2.1 k x).trans (f6 k x (by omega)).2.1, (l1.2.2 k x).trans (f6 k x (by omega)).2.2⟩) ((l1.1 8 30 (by decide) (by decide)).trans z8) l2 (Byt_eq (fun k => l1.1 114 k (by decide) (by decide)) bb)
  rw [g11']
  simp only [r2]
  by_cases q : rr = 2
  · rw [if_pos q, if_pos q]
    exact rm
  · rw [if_neg q, if_neg q]
    exact (pop_M rm ok).1
theorem st_ok {K : K6} {b : Ab} {m : Nat → Nat} {n : Nat} (h : AOK K b) (hn : n < 64) (hm : ∀ k, m k < 256) : AOK K (Ab.mk17 m b.r b.e b.top b.w b.told b.c0 b.c1 b.c2 b.c3 b.kc b.kp b.ko b.lc b.lp b.lo n) := AOK_mk hm h.r h.top h.w h.told h.kc h.kp h.ko h.lc h.lp h.lo hn h.kk
theorem newB_lt {m bs : Nat → Nat} {n : Nat} (hm : ∀ k, m k < 256) (hb : ∀ k, bs k < 256) : ∀ k, newB m n bs k < 256 := fun k => by
  unfold newB
  split
  · exact hb k
  · exact hm k
theorem st_t {K : K6} {c : Ab} {s t : St} {x : Bool} (ok : AOK K c) (rc : RC c s) (ew : f_Ctl_endsWriting s = true) (rm : RM c t) : Jx K (stc2 s x) t := by
  refine ⟨c, ok, ?_, rm⟩
  unfold stc2
  rw [ew, if_pos (rfl : true = true)]
  split
  · exact rc
  · exact rc
theorem st_f {K : K6} {c : Ab} {s t : St} {rr : Nat} (hr : rr < 8) (ok : AOK K c) (rc : RC c s) (ew : f_Ctl_endsWriting s = false) (rm : RM (if rr = 2 then c else popA c) t) : Jx K (stc2 s (if nI rr = 2 then false else true)) t := by
  have r2 : (nI rr = 2) ↔ rr = 2 := nI_eq (b := 2) (by omega) (by decide)
  unfold stc2
  rw [ew, if_neg Bool.false_ne_true]
  by_cases q : rr = 2
  · rw [if_pos q] at rm
    rw [if_pos (r2.mpr q), if_neg Bool.false_ne_true]
    exact ⟨c, ok, rc, rm⟩
  · rw [if_neg q] at rm
    rw [if_neg (fun e => q (r2.mp e)), if_pos (rfl : true = true)]
    exact ⟨popA c, AOK_pop ok, pop_C rc ok, rm⟩
set_option maxHeartbeats 200000 in
theorem store_J {K : K6} {a : Ab} {σ τ : St} {fm rr : Nat} (ha : AOK K a) (hc : RC a σ) (hm : RM a τ) (ov : OV a τ) (h0 : a.now = 0) (hfm : fm ≤ 6) (hr : rr < 8) (g11 : gI τ 11 30 = nI rr) : Jx K (f_PS_store σ (nI fm) (if nI rr = 2 then false else true)) (f_M_write τ (nI fm)) := by
  have e1 : f_PS_need σ 0 12 = f_PS_need σ (nI 0) 12 := rfl
  have e2 : f_M_want τ 0 = f_M_want τ (nI 0) := rfl
  have r2 : (nI rr = 2) ↔ rr = 2 := nI_eq (b := 2) (by omega) (by decide)
  rw [stc_eq, mw_eq, e1, e2]
  obtain ⟨-, -, n3⟩ := need_C hc ha (k := 0) (x := 12) (by decide) (by decide)
  have r1 := need_RC hc ha (k := 0) (x := 12) (by decide) (by decide)
  have w1 := (want_O hm ha (k := 0) (by decide)).1
  have v1 := OV_want hm ha ov (k := 0) (by decide)
  have s1 := same3_want hm ha (k := 0) (by decide)
  have a1 : AOK K (nowA a (lackN a 0)) := AOK_now ha (lackN_lt a 0)
  have rg : regN (nowA a (lackN a 0)) 0 = regN a 0 := (regN_now _ _ _).1
  have lk : (nowA a (lackN a 0)).now = lackN a 0 := by
    show a.now ||| lackN a 0 = _
    rw [h0, Nat.zero_or]
  have l1 : lackN a 0 = 0 ∨ lackN a 0 = 1 := by
    unfold lackN
    split
    · exact Or.inr rfl
    · exact Or.inl rfl
  rw [← rg] at n3
  rw [← lk] at l1
  generalize f_PS_need σ (nI 0) 12 = σ1 at *
  generalize f_M_want τ (nI 0) = τ1 at *
  generalize nowA a (lackN a 0) = b at *
  have v1' : gZ τ1 9 30 = endsN b.w b.now := v1
  have n6 := a1.now
  rw [ends_A r1 a1, v1']
  cases he : endsN b.w b.now with
  | true =>
    rw [if_pos (rfl : true = true), if_pos (rfl : true = true)]
    exact ⟨b, a1, r1, w1⟩
  | false =>
    rw [if_neg Bool.false_ne_true, if_neg Bool.false_ne_true]
    have ew := endsW_small l1 he
    obtain ⟨c1, c2, c3, c4⟩ := write_C (A := regN b 0) hfm n3 r1.w a1.w r1.now n6 ew r1.m
    generalize f_Wr_write σ1 (nI fm) 12 = σ2 at *
    have et : f_M_takeX τ1 0 = f_M_takeX τ1 (nI 0) := rfl
    rw [et]
    obtain ⟨x1, x2, x3, x4⟩ := takeX_M w1 a1 (k := 0) (by decide)
    have x5 := RM_take w1 a1 (k := 0) (by decide)
    have x6 := same3_trans s1 (same3_X x1)
    generalize f_M_takeX τ1 (nI 0) = τ2 at *
    obtain ⟨r, e3, o1, fd, o3, o4, o5⟩ := mw2_M a1 x5 x4 hfm
    have wl := fun k => writeS_lt (w := b.w) (A := regN b 0) hfm k
    rw [e3]
    generalize writeS b.w fm (regN b 0) = R at *
    obtain ⟨s6, e4, f6, z8, b6⟩ := mw3_M (fm := fm) a1 x5 (by rw [x3, v1', he]) o1 fd o4
    rw [e4]
    have ewc : f_Ctl_endsWriting σ2 = endsW b.w R.1 := by
      rw [endsW_N (by rw [c1.1 6 3 (by decide) (by decide) (by decide)]; exact r1.w) a1.w c2 (or_lt64 n6 c3), endsW_or, ew, Bool.false_or]
    have rc := RC_Y r1 c1 c2 c4
    have bb := Byt_eq b6 o3
    cases h9 : endsW b.w R.1 with
    | true =>
      rw [h9, if_pos (rfl : true = true)] at rc
      rw [if_pos (rfl : true = true)]
      exact st_t (st_ok a1 (or_lt64 n6 o4) a1.m) rc (ewc.trans h9) (mem_RM (m := b.m) x5 (fun k x q => f6 k x (by omega)) z8 (fun k hk => by rw [(f6 100 k (by omega)).1]; exact x5.m k hk) bb)
    | false =>
      rw [h9, if_neg Bool.false_ne_true] at rc
      rw [if_neg Bool.false_ne_true]
      have ok := st_ok a1 (or_lt64 n6 o4) (newB_lt (n := R.2.1) a1.m (fun k => (wl k).1))
      exact st_f hr ok rc (ewc.trans h9) (mw4_M (rr := rr) a1 x5 (wl 0).2.2 (wl 0).2.1 (or_lt64 n6 o4) f6 z8 bb (fun k hk => by rw [b6]; exact o5 h9 k hk) (fun k => (wl k).1) (x6.2.1.trans g11) hr ok)
