/-! throws: a new exception leaves a method, its caller catches it -/
abbrev X_io : String := "java/lang/IndexOutOfBoundsException"
abbrev X_ia : String := "java/lang/IllegalArgumentException"
abbrev X_up : List String := ["java/lang/RuntimeException", "java/lang/Exception"]
/-- the two statics that a new exception reads hold references -/
def ThZ (A : Nat → Prop) (U : State) (H : Heap) : Prop :=
  (∃ v : Value, v.isRef = true ∧ va_Z Bundle.tN "UNASSIGNED_STACK" Bundle.steD v A U H) ∧ ∃ v : Value, v.isRef = true ∧ va_Z Bundle.tN "SUPPRESSED_SENTINEL" Bundle.listD v A U H
theorem ThZ.moved {A : Nat → Prop} {u U : State} {H : Heap} (hvm : u.vm.Alike U.vm) (h : ThZ A u H) : ThZ A U H :=
  ⟨h.1.elim fun v q => ⟨v, q.1, q.2.moved hvm⟩, h.2.elim fun v q => ⟨v, q.1, q.2.moved hvm⟩⟩
theorem ThZ.kept {A : Nat → Prop} {U : State} {H H1 : Heap} (h : ThZ A U H) (hq : ∀ a : Nat, a < H.size → ¬ A a → H1[a]? = H[a]?) : ThZ A U H1 :=
  ⟨h.1.elim fun v q => ⟨v, q.1, q.2.kept hq⟩, h.2.elim fun v q => ⟨v, q.1, q.2.kept hq⟩⟩
theorem th_isRef {C n d : String} {v : Value} {A : Nat → Prop} {U : State} (hv : v.isRef = true) (h : va_Z C n d v A U U.heap) (a : Array Value) : (Cond.isRef (.static C n d)).before a U = true := by
  obtain ⟨cf, kf, fi, f, ad, cell, h1, h2, h3, h4, h5, h6, h7, -⟩ := h
  have e1 : (Term.static C n d).eval a U none [] U = some v := by
    simp [Term.eval, State.fieldNamed?, h1, h2, h4, h5, h6, h7]
  cases v <;> first | (simp [Value.isRef] at hv; done) | simp [Cond.before, Cond.holds, Cond.value, e1]
/-- the texts of the exceptions -/
def thS : List (String × Nat × String) := [(R_PS, 84, "no four bytes from there on"), (R_PS, 93, "no such byte"), (R_PS, 109, "no op, code or place"), (R_PS, 146, "no op or code"), (R_PS, 162, "no such word"), (R_PS, 164, "no such register"), (R_PS, 166, "no such part")]
def ThS (U : State) : Prop := ∀ q ∈ thS, (Cond.stringRef q.1 q.2.1 q.2.2).before #[] U = true
theorem ThS.warm {s t : State} (hW : s.WarmedH t.vm) (h : ThS s) : ThS t := fun q hq => Cond.stringRef_warmed hW (h q hq)
theorem ThS.is {s : State} (h : ThS s) {q : String × Nat × String} (hq : q ∈ thS) (a : Array Value) : (Cond.stringRef q.1 q.2.1 q.2.2).before a s = true := h q hq
/-- an IllegalArgumentException is no IndexOutOfBoundsException -/
def ThN (U : State) : Prop := ∃ cA cB, U.vm.findClass X_ia = some cA ∧ U.vm.findClass X_io = some cB ∧ U.vm.assignable cA cB = false
theorem ThN.moved {u U : State} (hvm : u.vm.Alike U.vm) (h : ThN u) : ThN U := by
  obtain ⟨cA, cB, h1, h2, h3⟩ := h
  exact ⟨cA, cB, by rw [hvm.findClass]; exact h1, by rw [hvm.findClass]; exact h2, by rw [hvm.assignable]; exact h3⟩
def thz1 : Cond := .isRef (.static Bundle.tN "UNASSIGNED_STACK" Bundle.steD)
def thz2 : Cond := .isRef (.static Bundle.tN "SUPPRESSED_SENTINEL" Bundle.listD)
theorem th_io : (Bundle.ownAtoms R_PS 86 X_io X_up).all (fun a => decide (a ∈ WL) || (decide (a = thz1) || decide (a = thz2))) = true := by decide +kernel
theorem th_ia : (Bundle.ownAtoms R_PS 111 X_ia X_up).all (fun a => decide (a ∈ WL) || (decide (a = thz1) || decide (a = thz2))) = true := by decide +kernel
theorem th_words {ic : Nat} {X : String} {s : State} {args : Array Value} {A : Nat → Prop} (h : (Bundle.ownAtoms R_PS ic X X_up).all (fun a => decide (a ∈ WL) || (decide (a = thz1) || decide (a = thz2))) = true) (hts : ∀ w ∈ WL, w.before args s = true) (hZ : ThZ A s s.heap) : ∀ a ∈ Bundle.ownAtoms R_PS ic X X_up, a.before args s = true := by
  intro a ha
  have h1 := List.all_eq_true.mp h a ha
  rw [Bool.or_eq_true, Bool.or_eq_true, decide_eq_true_eq, decide_eq_true_eq, decide_eq_true_eq] at h1
  obtain ⟨⟨v1, a1, b1⟩, v2, a2, b2⟩ := hZ
  rcases h1 with h1 | h1 | h1
  · exact hts a h1
  · subst h1; exact th_isRef a1 b1 args
  · subst h1; exact th_isRef a2 b2 args
section T0
variable {p : Program} {l : Launch} {e : Env} {R : Room} {s : State} {m : MethodId} {args : Array Value} {below : List Frame} {meth : Method} {c : Code} {H : Heap} {locs : List Loc} {cells slots : Nat} {Q : State → Prop} {cc : ByteArray}
/-- what stands behind a throw -/
def QTh (below : List Frame) (X : String) (s : State) : State → Prop := fun t => ∃ x ce, t.status = .running ∧ Ended t below (.threw x) ∧ s.WarmedH t.vm ∧ s.sameButNew ({ t with vm := s.vm } : State) [] 1 6 ∧ t.heap[x]? = some ce ∧ ce.vm = .none ∧ s.vm.findClass X = some ce.cls ∧ s.vm.assignable ce.cls ce.cls = true
theorem W_ldcS {own text : String} {index pc : Nat} {ls : Array Slot} {st : List Value} (hx : p.tables.exec = Jvm.exec) (hb : c.code = cc) (hown : s.vm.findClass own = some m.cls) (hconst : (Cond.stringRef own index text).before args s = true) (d : decode cc pc = .ok (.ldc index, 2))
    (k : ∀ a, W p l e R s m args below meth c H locs cells slots Q (F0 m (pc + 2) ls (.ref a :: st))) : W p l e R s m args below meth c H locs cells slots Q (F0 m pc ls st) := by
  intro T hT X
  obtain ⟨-, -, -, sa, -, -, -, -, -, hev⟩ := Cond.stringRef_spec hown hconst
  obtain ⟨t, a1, b1⟩ := k sa T hT X
  exact ⟨t, X.ldcString hx hown hconst hev rfl (by rw [hb]; exact d) t a1, b1⟩
/-- new X; dup; ldc text; X.<init>(text); athrow: the method throws -/
theorem W_throwNew {X text : String} {i0 j ic pc : Nat} {ls : Array Slot} {A : Nat → Prop} (hx : p.tables.exec = Jvm.exec) (hb : c.code = cc) (hlk : meth.locks = false) (hl : l.stackTraces = false) (hown : s.vm.findClass R_PS = some m.cls) (hsz : ls.size = c.maxLocals) (hout : c.exceptionTable.isEmpty = true)
    (hfit : Bundle.fit X = true) (hat : ∀ a ∈ Bundle.ownAtoms R_PS ic X X_up, a.before args s = true) (hlink : (Cond.classLink R_PS i0 X).before args s = true) (hins : (Cond.instantiable X 6).before args s = true) (hini : (Cond.initialized X).before args s = true) (hconst : (Cond.stringRef R_PS j text).before args s = true)
    (hf : 5 < R.frames) (hlo : 84 ≤ R.locals) (hc : 1 ≤ R.cells) (hs : 6 ≤ R.slots)
    (d0 : decode cc pc = .ok (.new i0, 3)) (d1 : decode cc (pc + 3) = .ok (.dup, 1)) (d2 : decode cc (pc + 3 + 1) = .ok (.ldc j, 2)) (d3 : decode cc (pc + 3 + 1 + 2) = .ok (.invokespecial ic, 3)) (d4 : decode cc (pc + 3 + 1 + 2 + 3) = .ok (.athrow, 1)) :
    W p l e R s m args below meth c s.heap [] 0 0 (QTh below X s) (F0 m pc ls []) := by
  intro T hT X0
  obtain ⟨vm₁, cX, kX, hfX, hkX, -, -, X₁, st1⟩ := X0.newCold hx (own := R_PS) (C := X) (index := i0) (n := 6) hown hlink hins hini (g := F0 m pc ls []) rfl (by rw [hb]; exact d0) (by omega) (by omega)
  generalize hT1 : (T.setVm vm₁).pushCell { cls := cX, slots := kX.instanceTypes.map defaultValue, vm := .none } = T1 at X₁ st1
  have hcellA : T1.heap[T.heap.size]? = some (freshCell cX kX) := by rw [← hT1]; exact State.heap_pushCell_size _ _
  refine W.then st1 X₁ ?_
  show W p l e R s m args below meth c T1.heap [] 1 6 (QTh below X s) (F0 m (pc + 3) ls [.ref T.heap.size])
  refine lv_dup hx hb d1 rfl ?_
  refine W_ldcS hx hb hown hconst d2 (fun sa => ?_)
  intro T2 hT2 X2
  have htr : e.platform.stackTraces = false := by rw [Jvm.Example.NoTraceControls.admits_follows X2.admits]; exact hl
  obtain ⟨U, hsteps, hrun, hend, hW, hsame, ce, hce, K⟩ := X2.ctorThrowS hx htr (own := R_PS) (cls := X) (names := X_up) (ic := ic) hown hfit (by decide +kernel) hat (fun y hy => by cases hy) hfX hkX (a := T.heap.size) (by rw [hT2]; exact hcellA) (by rw [hT]; exact Nat.le_refl _) (msg := .ref sa) rfl
    (g := F0 m (pc + 3 + 1 + 2) ls [.ref sa, .ref T.heap.size, .ref T.heap.size]) rfl hsz rfl rfl (rest := []) rfl (by rw [hb]; exact d3) (by rw [hb]; exact d4) (covers_of_empty hout _) (by simp; omega) (by simp [Value.category, JFrame.monitorRoom]; omega) hlk
  exact ⟨U, hsteps, T.heap.size, ce, hrun, hend, hW, hsame, hce, K.vm, K.cls, K.self⟩
/-- the contract of a method that throws a new X -/
def MTh (l : Launch) (y : MethodName) (cc : ByteArray) (maxL : Nat) (ret : Option FieldType) (rm : Room) (Pc : Array Value → State → Prop) (X : String) : Prop :=
  MetFree l y (headSpec (Cond.code y cc maxL ret :: WL) rm) Pc (fun _ _ _ _ _ => True) (fun _ st o t => ∃ x ce, o = .threw x ∧ st.WarmedH t.vm ∧ st.sameButNew ({ t with vm := st.vm } : State) [] 1 6 ∧ t.heap[x]? = some ce ∧ ce.vm = .none ∧ st.vm.findClass X = some ce.cls ∧ st.vm.assignable ce.cls ce.cls = true)
theorem MTh_intro {y : MethodName} {maxL : Nat} {ret : Option FieldType} {rm : Room} {Pc : Array Value → State → Prop} {X : String} (hy : plainName y.cls = true)
    (body : ∀ (p : Program) (e : Env) (s : State) (m : MethodId) (args : Array Value) (below : List Frame) (meth : Method) (c : Code), p.tables.exec = Jvm.exec → c.code = cc → c.maxLocals = maxL → s.vm.findClass y.cls = some m.cls → (∀ w ∈ WL, w.before args s = true) → meth.locks = false → c.exceptionTable.isEmpty = true → Pc args s →
      W p l e rm s m args below meth c s.heap [] 0 0 (QTh below X s) (entryFrame m args maxL)) : MTh l y cc maxL ret rm Pc X := by
  refine MetFree.of_bodyS (code := cc) (maxLocals := maxL) (ret := ret) hy ?_ ?_
  · intro args s m h hn
    obtain ⟨meth, c, h1, h2, h3, h4, h5, h6, -, -⟩ := Cond.code_spec hn (atoms_spec (ws := Cond.code y cc maxL ret :: WL) h _ List.mem_cons_self)
    exact ⟨meth, c, h1, h2, h3, h4, h5, h6⟩
  · intro p e s m args below meth c s₁ B hml hP _
    have hh0 : s₁.heap = s.heap := by rw [B.state]; rfl
    have hts := atoms_spec (ws := Cond.code y cc maxL ret :: WL) B.pre
    have hown : s.vm.findClass y.cls = some m.cls := findClass_of_methodNamed B.named
    obtain ⟨t, a1, x, ce, b1, b2, b3⟩ := body p e s m args below meth c B.exec B.bytes hml hown (fun w h => hts w (List.mem_cons_of_mem _ h)) B.notSynchronized (B.noHandlers (hts _ List.mem_cons_self)) hP s₁ hh0 (Stand.of_body B)
    exact ⟨t, .threw x, a1, b1, b2, x, ce, rfl, b3⟩
end T0
