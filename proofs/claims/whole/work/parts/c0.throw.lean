/-! throws: a new exception leaves a method, its caller catches it -/
abbrev X_io : String := "java/lang/IndexOutOfBoundsException"
abbrev X_ia : String := "java/lang/IllegalArgumentException"
abbrev X_up : List String := ["java/lang/RuntimeException", "java/lang/Exception"]
/-- a static of Throwable that a new exception reads: it is laid, and holds a reference -/
def ThL (n d : String) (A : Nat → Prop) (U : State) (H : Heap) : Prop := ∃ (c : ClassId) (k : Class) (i : Nat) (f : Field) (a : Nat) (cell : Cell) (v : Value), U.vm.findClass Bundle.tN = some c ∧ U.fieldFound? Bundle.tN n d = some (c, k, i, f) ∧ f.isStatic = true ∧ k.statics = some a ∧ H[a]? = some cell ∧ cell.vm.isStatics = true ∧ cell.cls = c ∧ f.slot < cell.slots.size ∧ k.staticTypes[f.slot]? = some f.type ∧ cell.slots[f.slot]? = some v ∧ v.isRef = true ∧ ¬ A a
theorem ThL.moved {n d : String} {A : Nat → Prop} {u U : State} {H : Heap} (hvm : u.vm.Alike U.vm) (h : ThL n d A u H) : ThL n d A U H := by
  obtain ⟨c, k, i, f, a, cell, v, h0, h1, h2, h3, h4, h5, h6, h7, h8, h9⟩ := h
  obtain ⟨k', hi', he⟩ := State.fieldFound?_setVm hvm h1
  exact ⟨c, k', i, f, a, cell, v, by rw [hvm.findClass]; exact h0, hi', h2, by rw [he]; exact h3, h4, h5, h6, h7, by rw [he]; exact h8, h9⟩
theorem ThL.kept {n d : String} {A : Nat → Prop} {U : State} {H H1 : Heap} (h : ThL n d A U H) (hq : ∀ a : Nat, a < H.size → ¬ A a → H1[a]? = H[a]?) : ThL n d A U H1 := by
  obtain ⟨c, k, i, f, a, cell, v, h0, h1, h2, h3, h4, h5, h6, h7, h8, h9, h10, h11⟩ := h
  exact ⟨c, k, i, f, a, cell, v, h0, h1, h2, h3, by rw [hq a (Array.getElem?_eq_some_iff.mp h4).1 h11]; exact h4, h5, h6, h7, h8, h9, h10, h11⟩
theorem ThL.lays {n d : String} {A : Nat → Prop} {U : State} (h : ThL n d A U U.heap) (args : Array Value) : (Cond.laysStatic Bundle.tN n d).before args U = true := by
  obtain ⟨c, k, i, f, a, cell, v, h0, h1, h2, h3, h4, h5, h6, h7, h8, -⟩ := h
  exact Cond.laysStatic_of h0 h1 h2 h3 h4 h5 h6 h7 h8
theorem ThL.isRef {n d : String} {A : Nat → Prop} {U : State} (h : ThL n d A U U.heap) (args : Array Value) : (Cond.isRef (.static Bundle.tN n d)).before args U = true := by
  obtain ⟨c, k, i, f, a, cell, v, h0, h1, h2, h3, h4, h5, h6, h7, h8, h9, h10, -⟩ := h
  have e1 : (Term.static Bundle.tN n d).eval args U none [] U = some v := by
    simp [Term.eval, State.fieldNamed?, h1, h2, h3, h4, h5, h9]
  cases v <;> first | (simp [Value.isRef] at h10; done) | simp [Cond.before, Cond.holds, Cond.value, e1]
theorem ThL.of {n d : String} {A : Nat → Prop} {s : State} {args : Array Value} (h1 : (Cond.laysStatic Bundle.tN n d).before args s = true) (h2 : (Cond.isRef (.static Bundle.tN n d)).before args s = true) (hA : ∀ a : Nat, a < s.heap.size → ¬ A a) : ThL n d A s s.heap := by
  obtain ⟨c, k, i, f, a, cell, hc, hi, hst, ha, hcell, hs, hcls, hlt, hty⟩ := Cond.laysStatic_spec h1
  obtain ⟨v, hv⟩ : ∃ v, cell.slots[f.slot]? = some v := ⟨_, Array.getElem?_eq_getElem hlt⟩
  have e1 : (Term.static Bundle.tN n d).eval args s none [] s = some v := by
    simp [Term.eval, State.fieldNamed?, hi, hst, ha, hcell, hs, hv]
  refine ⟨c, k, i, f, a, cell, v, hc, hi, hst, ha, hcell, hs, hcls, hlt, hty, hv, ?_, hA a (Array.getElem?_eq_some_iff.mp hcell).1⟩
  cases v <;> first | rfl | (simp [Cond.before, Cond.holds, Cond.value, e1] at h2; done)
def thY : List MethodName := [Bundle.initS "java/lang/RuntimeException", Bundle.initS "java/lang/Exception", Bundle.initS Bundle.tN]
/-- what a new exception wants of the tables beside the good words -/
def ThD (U : State) : Prop := va_Nw (.castable X_io X_io) U ∧ va_Nw (.castable X_ia X_ia) U ∧ ∀ y ∈ thY, va_Nw (.declares y) U
theorem ThD.moved {u U : State} (hvm : u.vm.Alike U.vm) (h : ThD u) : ThD U :=
  ⟨va_tabs rfl (rfl : (u.setVm U.vm).vm = U.vm) (by rw [Cond.castable_setVm hvm]; exact h.1), va_tabs rfl (rfl : (u.setVm U.vm).vm = U.vm) (by rw [Cond.castable_setVm hvm]; exact h.2.1), fun y hy => va_tabs rfl (rfl : (u.setVm U.vm).vm = U.vm) (by rw [Cond.declares_setVm hvm]; exact h.2.2 y hy)⟩
/-- the two statics that a new exception reads, and the words beside the good ones -/
def ThZ (A : Nat → Prop) (U : State) (H : Heap) : Prop := ThL "UNASSIGNED_STACK" Bundle.steD A U H ∧ ThL "SUPPRESSED_SENTINEL" Bundle.listD A U H ∧ ThD U
theorem ThZ.moved {A : Nat → Prop} {u U : State} {H : Heap} (hvm : u.vm.Alike U.vm) (h : ThZ A u H) : ThZ A U H := ⟨h.1.moved hvm, h.2.1.moved hvm, h.2.2.moved hvm⟩
theorem ThZ.kept {A : Nat → Prop} {U : State} {H H1 : Heap} (h : ThZ A U H) (hq : ∀ a : Nat, a < H.size → ¬ A a → H1[a]? = H[a]?) : ThZ A U H1 := ⟨h.1.kept hq, h.2.1.kept hq, h.2.2⟩
/-- the texts of the exceptions -/
def thS : List (String × Nat × String) := [(R_PS, 84, "no four bytes from there on"), (R_PS, 93, "no such byte"), (R_PS, 109, "no op, code or place"), (R_PS, 146, "no op or code"), (R_PS, 162, "no such word"), (R_PS, 164, "no such register"), (R_PS, 166, "no such part")]
def ThS (U : State) : Prop := ∀ q ∈ thS, (Cond.stringRef q.1 q.2.1 q.2.2).before #[] U = true
theorem ThS.warm {s t : State} (hW : s.WarmedH t.vm) (h : ThS s) : ThS t := fun q hq => Cond.stringRef_warmed hW (h q hq)
theorem ThS.is {s : State} (h : ThS s) {q : String × Nat × String} (hq : q ∈ thS) (a : Array Value) : (Cond.stringRef q.1 q.2.1 q.2.2).before a s = true := h q hq
/-- an IllegalArgumentException is no IndexOutOfBoundsException -/
def ThN (U : State) : Prop := ∃ cA cB, U.vm.findClass X_ia = some cA ∧ U.vm.findClass X_io = some cB ∧ U.vm.assignable cA cB = false
theorem ThN.moved {u U : State} (hvm : u.vm.Alike U.vm) (h : ThN u) : ThN U := by
  obtain ⟨cA, cB, h1, h2, h3⟩ := h
  exact ⟨cA, cB, by rw [hvm.findClass]; exact h1, by rw [hvm.findClass]; exact h2, by rw [hvm.assignable]; exact h3⟩
def thX : List Cond := [.isRef (.static Bundle.tN "UNASSIGNED_STACK" Bundle.steD), .isRef (.static Bundle.tN "SUPPRESSED_SENTINEL" Bundle.listD), .laysStatic Bundle.tN "UNASSIGNED_STACK" Bundle.steD, .laysStatic Bundle.tN "SUPPRESSED_SENTINEL" Bundle.listD, .castable X_io X_io, .castable X_ia X_ia, .declares (Bundle.initS "java/lang/RuntimeException"), .declares (Bundle.initS "java/lang/Exception"), .declares (Bundle.initS Bundle.tN)]
theorem ThZ.use {A : Nat → Prop} {s : State} (h : ThZ A s s.heap) (args : Array Value) : ∀ a ∈ thX, a.before args s = true :=
  List.forall_mem_cons.mpr ⟨h.1.isRef args, List.forall_mem_cons.mpr ⟨h.2.1.isRef args, List.forall_mem_cons.mpr ⟨h.1.lays args, List.forall_mem_cons.mpr ⟨h.2.1.lays args, List.forall_mem_cons.mpr ⟨va_Nw.use rfl h.2.2.1, List.forall_mem_cons.mpr ⟨va_Nw.use rfl h.2.2.2.1, List.forall_mem_cons.mpr ⟨va_Nw.use rfl (h.2.2.2.2 _ (List.mem_of_getElem? (i := 0) rfl)), List.forall_mem_cons.mpr ⟨va_Nw.use rfl (h.2.2.2.2 _ (List.mem_of_getElem? (i := 1) rfl)), List.forall_mem_cons.mpr ⟨va_Nw.use rfl (h.2.2.2.2 _ (List.mem_of_getElem? (i := 2) rfl)), fun a ha => by cases ha⟩⟩⟩⟩⟩⟩⟩⟩⟩
theorem th_io : (Bundle.ownAtoms R_PS 86 X_io X_up).all (fun a => decide (a ∈ WL) || decide (a ∈ thX)) = true := by decide +kernel
theorem th_ia : (Bundle.ownAtoms R_PS 111 X_ia X_up).all (fun a => decide (a ∈ WL) || decide (a ∈ thX)) = true := by decide +kernel
theorem th_words {ic : Nat} {X : String} {s : State} {args : Array Value} {A : Nat → Prop} (h : (Bundle.ownAtoms R_PS ic X X_up).all (fun a => decide (a ∈ WL) || decide (a ∈ thX)) = true) (hts : ∀ w ∈ WL, w.before args s = true) (hZ : ThZ A s s.heap) : ∀ a ∈ Bundle.ownAtoms R_PS ic X X_up, a.before args s = true := by
  intro a ha
  have h1 := List.all_eq_true.mp h a ha
  rw [Bool.or_eq_true, decide_eq_true_eq, decide_eq_true_eq] at h1
  rcases h1 with h1 | h1
  · exact hts a h1
  · exact hZ.use args a h1
section T0
variable {p : Program} {l : Launch} {e : Env} {R : Room} {s : State} {m : MethodId} {args : Array Value} {below : List Frame} {meth : Method} {c : Code} {H : Heap} {locs : List Loc} {cells slots : Nat} {Q : State → Prop} {cc : ByteArray}
/-- what stands behind a throw -/
def QTh (below : List Frame) (X : String) (s : State) : State → Prop := fun t => ∃ x ce, t.status = .running ∧ Ended t below (.threw x) ∧ s.WarmedH t.vm ∧ s.sameButNew ({ t with vm := s.vm } : State) [] 1 6 ∧ t.heap[x]? = some ce ∧ ce.vm = .none ∧ s.vm.findClass X = some ce.cls ∧ s.vm.assignable ce.cls ce.cls = true
theorem W_ldcS {own text : String} {index pc : Nat} {ls : Array Slot} {st : List Value} (hx : p.tables.exec = Jvm.exec) (hb : c.code = cc) (hown : s.vm.findClass own = some m.cls) (hconst : (Cond.stringRef own index text).before args s = true) (d : decode cc pc = .ok (.ldc index, 2))
    (k : ∀ a, W p l e R s m args below meth c H locs cells slots Q (F0 m (pc + 2) ls (.ref a :: st))) : W p l e R s m args below meth c H locs cells slots Q (F0 m pc ls st) := by
  intro T hT X
  obtain ⟨-, -, -, sa, -, -, -, -, -, hev⟩ := Cond.stringRef_spec hown hconst
  obtain ⟨t, a1, b1⟩ := k sa T hT X
  exact ⟨t, X.ldcString hx hown hconst hev rfl (by rw [hb]; exact d) t a1, b1⟩
/-- new X; dup; ldc text; X.<init>(text); athrow: the method throws -/
theorem W_throwNew {X text : String} {i0 j ic pc : Nat} {ls : Array Slot} {A : Nat → Prop} (hx : p.tables.exec = Jvm.exec) (hb : c.code = cc) (hlk : meth.locks = false) (hl : l.stackTraces = false) (hown : s.vm.findClass R_PS = some m.cls) (hsz : ls.size = c.maxLocals) (hout : c.exceptionTable.isEmpty = true)
    (hfit : Bundle.fit X = true) (hat : ∀ a ∈ Bundle.ownAtoms R_PS ic X X_up, a.before args s = true) (hlink : (Cond.classLink R_PS i0 X).before args s = true) (hins : (Cond.instantiable X 6).before args s = true) (hini : (Cond.initialized X).before args s = true) (hconst : (Cond.stringRef R_PS j text).before args s = true)
    (hf : 5 < R.frames) (hlo : 84 ≤ R.locals) (hc : 1 ≤ R.cells) (hs : 6 ≤ R.slots)
    (d0 : decode cc pc = .ok (.new i0, 3)) (d1 : decode cc (pc + 3) = .ok (.dup, 1)) (d2 : decode cc (pc + 3 + 1) = .ok (.ldc j, 2)) (d3 : decode cc (pc + 3 + 1 + 2) = .ok (.invokespecial ic, 3)) (d4 : decode cc (pc + 3 + 1 + 2 + 3) = .ok (.athrow, 1)) :
    W p l e R s m args below meth c s.heap [] 0 0 (QTh below X s) (F0 m pc ls []) := by
  intro T hT X0
  obtain ⟨vm₁, cX, kX, hfX, hkX, -, -, X₁, st1⟩ := X0.newCold hx (own := R_PS) (C := X) (index := i0) (n := 6) hown hlink hins hini (g := F0 m pc ls []) rfl (by rw [hb]; exact d0) (by omega) (by omega)
  generalize hT1 : (T.setVm vm₁).pushCell { cls := cX, slots := kX.instanceTypes.map defaultValue, vm := .none } = T1 at X₁ st1
  have hcellA : T1.heap[T.heap.size]? = some (freshCell cX kX) := by rw [← hT1]; exact State.heap_pushCell_size _ _
  refine W.then st1 X₁ ?_
  show W p l e R s m args below meth c T1.heap [] 1 6 (QTh below X s) (F0 m (pc + 3) ls [.ref T.heap.size])
  refine lv_dup hx hb d1 rfl ?_
  refine W_ldcS hx hb hown hconst d2 (fun sa => ?_)
  intro T2 hT2 X2
  have htr : e.platform.stackTraces = false := by rw [Jvm.Example.NoTraceControls.admits_follows X2.admits]; exact hl
  obtain ⟨U, hsteps, hrun, hend, hW, hsame, ce, hce, K⟩ := X2.ctorThrowS hx htr (own := R_PS) (cls := X) (names := X_up) (ic := ic) hown hfit (by decide +kernel) hat (fun y hy => by cases hy) hfX hkX (a := T.heap.size) (by rw [hT2]; exact hcellA) (by rw [hT]; exact Nat.le_refl _) (msg := .ref sa) rfl
    (g := F0 m (pc + 3 + 1 + 2) ls [.ref sa, .ref T.heap.size, .ref T.heap.size]) rfl hsz rfl rfl (rest := []) rfl (by rw [hb]; exact d3) (by rw [hb]; exact d4) (covers_of_empty hout _) (by simp; omega) (by simp [Value.category, JFrame.monitorRoom]; omega) hlk
  exact ⟨U, hsteps, T.heap.size, ce, hrun, hend, hW, hsame, hce, K.vm, K.cls, K.self⟩
/-- the contract of a method that throws a new X -/
def MTh (l : Launch) (y : MethodName) (cc : ByteArray) (maxL : Nat) (ret : Option FieldType) (rm : Room) (Pc : Array Value → State → Prop) (X : String) : Prop :=
  MetFree l y (headSpec (Cond.code y cc maxL ret :: WL) rm) Pc (fun _ _ _ _ _ => True) (fun _ st o t => ∃ x ce, o = .threw x ∧ st.WarmedH t.vm ∧ st.sameButNew ({ t with vm := st.vm } : State) [] 1 6 ∧ t.heap[x]? = some ce ∧ ce.vm = .none ∧ st.vm.findClass X = some ce.cls ∧ st.vm.assignable ce.cls ce.cls = true)
theorem MTh_intro {y : MethodName} {maxL : Nat} {ret : Option FieldType} {rm : Room} {Pc : Array Value → State → Prop} {X : String} (hy : plainName y.cls = true)
    (body : ∀ (p : Program) (e : Env) (s : State) (m : MethodId) (args : Array Value) (below : List Frame) (meth : Method) (c : Code), p.tables.exec = Jvm.exec → c.code = cc → c.maxLocals = maxL → s.vm.findClass y.cls = some m.cls → (∀ w ∈ WL, w.before args s = true) → meth.locks = false → c.exceptionTable.isEmpty = true → Pc args s →
      W p l e rm s m args below meth c s.heap [] 0 0 (QTh below X s) (entryFrame m args maxL)) : MTh l y cc maxL ret rm Pc X := by
  refine MetFree.of_bodyS (code := cc) (maxLocals := maxL) (ret := ret) hy ?_ ?_
  · intro args s m h hn
    obtain ⟨meth, c, h1, h2, h3, h4, h5, h6, -, -⟩ := Cond.code_spec hn (atoms_spec (ws := Cond.code y cc maxL ret :: WL) h _ List.mem_cons_self)
    exact ⟨meth, c, h1, h2, h3, h4, h5, h6⟩
  · intro p e s m args below meth c s₁ B hml hP _
    have hh0 : s₁.heap = s.heap := by rw [B.state]; rfl
    have hts := atoms_spec (ws := Cond.code y cc maxL ret :: WL) B.pre
    have hown : s.vm.findClass y.cls = some m.cls := findClass_of_methodNamed B.named
    obtain ⟨t, a1, x, ce, b1, b2, b3⟩ := body p e s m args below meth c B.exec B.bytes hml hown (fun w h => hts w (List.mem_cons_of_mem _ h)) B.notSynchronized (B.noHandlers (hts _ List.mem_cons_self)) hP s₁ hh0 (Stand.of_body B)
    exact ⟨t, .threw x, a1, b1, b2, x, ce, rfl, b3⟩
end T0
