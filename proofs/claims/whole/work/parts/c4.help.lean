/-! the law's helpers: methods with handlers -/
section H0
variable {p : Program} {l : Launch} {e : Env} {R : Room} {s : State} {m : MethodId} {args : Array Value} {below : List Frame} {meth : Method} {c : Code} {Q : State → Prop} {E : Ev} {nL pc : Nat} {lv : List (Nat × Value)} {st : List Value} {σ τ : St} {q : Int64} {cc : ByteArray} {own : String}
theorem vp1_eq (cA : ClassId) (f : Nat → Int64) (i : Int32) (hin : vp_in i 1) (v : Int64) : vp_cell cA (1, .inr (.inl (vp_updL f i.toNatClampNeg v))) = vp_cell cA (1, .inr (.inl (fun _ => v))) := by
  have h0 : i.toNatClampNeg = 0 := by
    have := hin
    unfold vp_in at this
    omega
  rw [h0]
  rfl
theorem wa_st49 (hC : Cx p s m args c cc nL own E) {i : Int32} {v : Int64} (hin : vp_in i 1) (d : decode cc pc = .ok (.lastore, 1)) (k : WS p l e R s m args below meth c Q E nL (pc + 1) lv st (σ, τ, v)) : WS p l e R s m args below meth c Q E nL pc lv (.long v :: .int i :: .ref 49 :: st) (σ, τ, q) := by
  intro H locs ls hl hw
  refine va_last (D := E.2.1) hC.1 hC.2.1 hC.2.2.2.2.2.1 hw.1.1 hw.2.1 hw.2.2 49 2 (wl_at (E := E) (ω := (σ, τ, q)) (i := 49) (by decide)) rfl hin d (fun H1 locs1 hP hD hS => k H1 locs1 ls hl ⟨⟨?_, hw.1.2⟩, ?_, hS⟩)
  · intro j x hj
    obtain ⟨hj1, rfl⟩ := wl_of hj
    by_cases h49 : j = 49
    · subst h49
      have h1 := hP 49 _ (by rw [List.getElem?_set_self (by simp [wl])])
      show H1[E.1 49]? = some (vp_cell (E.2.2 2) (1, .inr (.inl (fun _ => v))))
      rw [← vp1_eq _ (fun _ => q) i hin v]
      exact h1
    · have h1 := hP j (E.1 j, wcell E (σ, τ, q) j) (by rw [List.getElem?_set_ne (fun e => h49 e.symm), wl_at hj1])
      have h2 : wcell E (σ, τ, v) j = wcell E (σ, τ, q) j := by
        have hc : j = 0 ∨ j = 1 ∨ j = 2 ∨ j = 3 ∨ j = 4 ∨ j = 5 ∨ j = 6 ∨ j = 7 ∨ j = 8 ∨ j = 9 ∨ j = 10 ∨ j = 11 ∨ j = 12 ∨ j = 13 ∨ j = 14 ∨ j = 15 ∨ j = 16 ∨ j = 17 ∨ j = 18 ∨ j = 19 ∨ j = 20 ∨ j = 21 ∨ j = 22 ∨ j = 23 ∨ j = 24 ∨ j = 25 ∨ j = 26 ∨ j = 27 ∨ j = 28 ∨ j = 29 ∨ j = 30 ∨ j = 31 ∨ j = 32 ∨ j = 33 ∨ j = 34 ∨ j = 35 ∨ j = 36 ∨ j = 37 ∨ j = 38 ∨ j = 39 ∨ j = 40 ∨ j = 41 ∨ j = 42 ∨ j = 43 ∨ j = 44 ∨ j = 45 ∨ j = 46 ∨ j = 47 ∨ j = 48 := by omega
        rcases hc with rfl | rfl | rfl | rfl | rfl | rfl | rfl | rfl | rfl | rfl | rfl | rfl | rfl | rfl | rfl | rfl | rfl | rfl | rfl | rfl | rfl | rfl | rfl | rfl | rfl | rfl | rfl | rfl | rfl | rfl | rfl | rfl | rfl | rfl | rfl | rfl | rfl | rfl | rfl | rfl | rfl | rfl | rfl | rfl | rfl | rfl | rfl | rfl | rfl <;> rfl
      rw [h2]
      exact h1
  · refine ⟨fun i1 j1 x y h1 h2 h3 => ?_, fun j x hj => ?_⟩
    · obtain ⟨a1, rfl⟩ := wl_of h1
      obtain ⟨a2, rfl⟩ := wl_of h2
      exact hw.2.1.1 i1 j1 _ _ (wl_at a1) (wl_at a2) h3
    · obtain ⟨a1, rfl⟩ := wl_of hj
      exact ⟨j, a1, rfl⟩
/-- what a helper of the law leaves: its answer, the world, at the most one new exception -/
def HQ (E : Ev) (k : Int32) (ω' : Om) : Array Value → State → Outcome → State → Prop := fun a st o t => Post0 E (some (.int k)) ω' a st o t ∧ ∃ L, FrameEnd st o t L 1 6 ∧ ∀ q ∈ L, AA E q.base
def HP (E : Ev) (vs : List Value) (ω : Om) : Array Value → State → Prop := fun a U => Pre0 E vs ω a U ∧ ThZ (AA E) U U.heap ∧ ThS U ∧ ThN U
def HF (l : Launch) (y : MethodName) (cc : ByteArray) (maxL : Nat) (hs : List (Nat × Nat × Nat × Nat)) (rm : Room) (E : Ev) (vs : List Value) (ω : Om) (k : Int32) (ω' : Om) : Prop :=
  MetFree l y (headSpec (Cond.codeWith y cc maxL (some .int) hs :: WL) rm) (HP E vs ω) (fun _ _ _ _ _ => True) (HQ E k ω')
/-- a helper's body, with 0 or 1 new cells -/
theorem HF_intro {y : MethodName} {maxL : Nat} {hs : List (Nat × Nat × Nat × Nat)} {rm : Room} {vs : List Value} {k : Int32} {ω ω' : Om} {lv0 : List (Nat × Value)} {mc ms : Nat} (hmc : mc ≤ 1) (hms : ms ≤ 6) (hy : plainName y.cls = true) (hn : (lg_sl (vs.map (cv E))).length ≤ maxL) (hlv : lv_args 0 (vs.map (cv E)) = lv0.map (fun q => (q.1, cv E q.2)))
    (body : ∀ (p : Program) (e : Env) (s : State) (m : MethodId) (args : Array Value) (below : List Frame) (meth : Method) (c : Code) (Q : State → Prop), Cx p s m args c cc maxL y.cls E → meth.sig.returnType = some .int → meth.locks = false → c.exceptionTable.toList = tableOf hs → ThZ (AA E) s s.heap → ThS s → ThN s → Q = MQ below (Post0 E (some (.int k)) ω') args s mc ms (AA E) →
      WS p l e rm s m args below meth c Q E maxL 0 lv0 [] ω) : HF l y cc maxL hs rm E vs ω k ω' := by
  refine MetFree.of_bodyS (code := cc) (maxLocals := maxL) (ret := some .int) hy ?_ ?_
  · intro args s m h hn
    obtain ⟨m', meth, c, h0, h1, h2, h3, h4, h5, h6, h7, -⟩ := Cond.codeWith_spec (atoms_spec (ws := Cond.codeWith y cc maxL (some .int) hs :: WL) h _ List.mem_cons_self)
    cases hn.symm.trans h0
    exact ⟨meth, c, h1, h2, h3, h4, h6, h7⟩
  · intro p e s m args below meth c s₁ B hml hP _
    obtain ⟨⟨rfl, hP, hK, hD, hT, hI⟩, hZ, hS, hN⟩ := hP
    have hts := atoms_spec (ws := Cond.codeWith y cc maxL (some .int) hs :: WL) B.pre
    have hown : s.vm.findClass y.cls = some m.cls := findClass_of_methodNamed B.named
    have X0 := Stand.of_body B
    obtain ⟨m', meth', c', h0, h1, h2, h3, h4, h5, h6, h7, -⟩ := Cond.codeWith_spec (hts _ List.mem_cons_self)
    cases B.named.symm.trans h0
    cases X0.method.symm.trans h1
    cases X0.code.symm.trans h2
    have htab : c.exceptionTable.toList = tableOf hs := by rw [← h5, table_eq]
    have hl := lv_entry (vs.map (cv E)) (n := maxL) hn
    have hw : Wd E ω s.heap s.heap [] := ⟨⟨hP, hI⟩, ⟨hD.1, fun k q hk => ⟨k, (wl_of hk).1, by rw [(wl_of hk).2]⟩⟩, va_S.rf⟩
    have hh0 : s₁.heap = s.heap := by rw [B.state]; rfl
    rw [hlv] at hl
    have key := body p e s m _ below meth c _ ⟨B.exec, B.bytes, hml, hown, fun w h => hts w (List.mem_cons_of_mem _ h), hK, hT⟩ B.returns B.notSynchronized htab hZ hS hN rfl s.heap [] _ hl hw
    have key2 : W p l e rm s m (vs.map (cv E)).toArray below meth c s.heap [] 0 0 (MQ below (Post0 E (some (.int k)) ω') (vs.map (cv E)).toArray s mc ms (AA E)) (entryFrame m (vs.map (cv E)).toArray maxL) := by
      rw [lg_entry_eq]
      exact key
    obtain ⟨t, a1, o, b1, b2, b3, L, ⟨f1, f2, f3⟩, hL⟩ := key2 s₁ hh0 X0
    exact ⟨t, o, a1, b1, b2, b3, L, ⟨f1, f2, f3.mono hmc hms⟩, hL⟩
/-- the world over a heap that has grown -/
theorem Wd_grow {ω : Om} {H0 H H1 : Heap} {locs : List Loc} (hw : Wd E ω H0 H locs) (hz : H.size ≤ H1.size) (hk : ∀ q, q < H.size → H1[q]? = H[q]?) : Wd E ω H0 H1 locs := by
  obtain ⟨⟨hP, hI⟩, hD, hS⟩ := hw
  have hlt : ∀ i, i < 50 → E.1 i < H.size := fun i hi => by
    have h1 := hP i _ (wl_at hi)
    unfold va_at at h1
    dsimp only at h1
    split at h1
    · exact (Array.getElem?_eq_some_iff.mp h1).1
    · obtain ⟨r, -, cell, h2, -⟩ := h1
      exact (Array.getElem?_eq_some_iff.mp h2).1
  refine ⟨⟨fun j x hj => ?_, hI⟩, hD, Nat.le_trans hS.1 hz, fun q hq hA => ?_, hS.2.2⟩
  · obtain ⟨a1, rfl⟩ := wl_of hj
    have h1 := hP j _ hj
    have h2 := hk _ (hlt j a1)
    unfold va_at at h1 ⊢
    dsimp only at h1 ⊢
    split at h1
    · rw [h2]; exact h1
    · obtain ⟨r, hr, hb⟩ := h1
      exact ⟨r, hr, hb.kept h2⟩
  · rw [hk q (Nat.lt_of_lt_of_le hq hS.1)]
    exact hS.2.1 q hq hA
/-- invokevirtual of a throwing method of the class, from a world: up to the note -/
theorem ws_throw (hC : Cx p s m args c cc nL own E) (hZ : ThZ (AA E) s s.heap) (hS : ThS s) {ω : Om} {y : MethodName} {bytes : ByteArray} {maxL n index : Nat} {ret : Option FieldType} {vs rest : List Value} {X : String} {fs : List Value} (hc : wcell E ω 0 = .inr (0, fs)) (hqy : R_PS = y.cls)
    (hM : MTh l y bytes maxL ret rmT (Pth (AA E) (.ref (E.1 0) :: vs.map (cv E))) X) (hy : y.cls ≠ "java/lang/invoke/MethodHandle" ∧ y.cls ≠ "java/lang/invoke/VarHandle" ∧ (parseMethodDescriptor y.desc).map (fun d => d.parameters.length) = some n) (h0 : Cond.code y bytes maxL ret ∈ WL) (hi : Cond.initialized y.cls ∈ WL) (hin : Cond.instanceMethod y ∈ WL) (hsel : Cond.selects y.cls y y ∈ WL) (hn : vs.length = n) (hl : Cond.methodLink own index y ∈ WL) (hR : rmT.frames + 1 ≤ R.frames ∧ 8 + (maxL + 11) + rmT.locals ≤ R.locals) (hR2 : 1 ≤ R.cells ∧ 6 ≤ R.slots) (hs8 : (rest.map fun v => v.category).sum ≤ 8) (d : decode cc pc = .ok (.invokevirtual index, 3))
    (k : ∀ (H1 : Heap) (locs : List Loc) (ls : Array Slot) (x : Addr) (ce : Cell) (T' : State), lv_has ls nL (lv.map (fun q => (q.1, cv E q.2))) → Wd E ω s.heap H1 locs → T'.heap = H1 → H1[x]? = some ce → ce.vm = .none → s.vm.findClass X = some ce.cls → s.vm.assignable ce.cls ce.cls = true → Stand p l e R s m args below meth c T' locs 1 6 → ∃ t, Steps p.tables e below ((T'.setTop (F0 m pc ls (rest.map (cv E)))).pushFrame (.throwing x)) t ∧ Q t) :
    WS p l e R s m args below meth c Q E nL pc lv (vs.reverse ++ .ref 0 :: rest) ω := by
  intro H locs ls hl2 hw T hT X0
  have hroom : 2 * (F0 m pc ls ((vs.reverse ++ .ref 0 :: rest).map (cv E))).monitorRoom + ((rest.map (cv E)).map fun v => v.category).sum ≤ 8 := lv_room (by rw [List.map_map]; simpa [Function.comp_def, cv_cat] using hs8)
  obtain ⟨x, ce, T', X1, hz, hk, hce, hcv, hcc, hca, hst⟩ := th_runV (As := vs.map (cv E)) (rest := rest.map (cv E)) (b := E.1 0) (C := y.cls) ⟨hC.1, hC.2.1, hC.2.2.1, hC.2.2.2.1, hC.2.2.2.2.1⟩ hM ⟨callB_of (ws := Cond.code y bytes maxL ret :: WL) n hC.2.2.2.2.1 (fun w h => ⟨(List.mem_cons.mp h).elim (fun e => by rw [e]; exact h0) (fun h => h), (WL_good _ h0 w h).2⟩) rfl rfl rfl (hC.2.2.2.2.1 _ hi) (hC.2.2.2.2.1 _ hl) hy hR, hC.2.2.2.2.1 _ hin, hC.2.2.2.2.1 _ hsel⟩
    ⟨Pth_blind, by rw [← hqy]; exact wi_recv hC hw (by decide) hc rfl, fun U hU hW => ⟨rfl, by rw [hU]; exact (hZ.kept hw.2.2.2.1).moved hW.alike, hS.warm hW⟩⟩ (g := F0 m pc ls ((vs.reverse ++ .ref 0 :: rest).map (cv E))) rfl (by rw [List.length_map]; exact hn) hl2.1 (by simp [cv]) hroom d ⟨by omega, by omega⟩ T hT X0
  have hw1 := Wd_grow hw hz hk
  obtain ⟨t, a1, b1⟩ := k T'.heap locs ls x ce T' hl2 hw1 rfl hce hcv hcc hca (by simpa using X1)
  exact ⟨t, hst.trans a1, b1⟩
end H0
