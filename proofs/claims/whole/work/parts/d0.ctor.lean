/-! constructors: a world that grows; its k-th cell lies at B + k -/
def CP (E : Ev) (B : Nat) (L : List va_E) (H : Heap) : Prop := ∀ (k : Nat) (x : va_E), L[k]? = some x → va_at E.2.1 vcl (B + k, x) H
def cwl (B : Nat) (L : List va_E) : va_W := L.mapIdx (fun k x => (B + k, x))
theorem cwl_at {B : Nat} {L : List va_E} {k : Nat} {x : va_E} (h : L[k]? = some x) : (cwl B L)[k]? = some (B + k, x) := by
  simp [cwl, List.getElem?_mapIdx, h]
theorem cwl_of {B : Nat} {L : List va_E} {k : Nat} {q : Nat × va_E} (h : (cwl B L)[k]? = some q) : ∃ x, L[k]? = some x ∧ q = (B + k, x) := by
  rw [cwl, List.getElem?_mapIdx] at h
  cases hx : L[k]? with
  | none => rw [hx] at h; cases h
  | some x => rw [hx] at h; exact ⟨x, rfl, (Option.some.inj h).symm⟩
theorem cwl_P {E : Ev} {B : Nat} {L : List va_E} {H : Heap} (h : CP E B L H) : va_P E.2.1 vcl (cwl B L) H := fun k q hk => by
  obtain ⟨x, hx, rfl⟩ := cwl_of hk
  exact h k x hx
def CWd (E : Ev) (B : Nat) (L : List va_E) (H0 H : Heap) (locs : List Loc) : Prop := CP E B L H ∧ H.size = B + L.length ∧ va_S (fun q => B ≤ q) H0 H locs
theorem CP_set {E : Ev} {B : Nat} {L : List va_E} {H H1 : Heap} {q0 : Nat} {x : va_E} (h : CP E B L H) (hx : va_at E.2.1 vcl (B + q0, x) H1) (ho : ∀ q : Nat, q ≠ B + q0 → H1[q]? = H[q]?) : CP E B (L.set q0 x) H1 := by
  intro j y hj
  by_cases e : j = q0
  · subst e
    have hl : j < L.length := by
      have := (List.getElem?_eq_some_iff.mp hj).1
      simpa using this
    rw [List.getElem?_set_self hl] at hj
    cases hj
    exact hx
  · rw [List.getElem?_set_ne (fun h => e h.symm)] at hj
    exact (h j y hj).kept (ho _ (by show B + j ≠ B + q0; omega))
theorem CWd_set {E : Ev} {B : Nat} {L : List va_E} {H0 H H1 : Heap} {locs : List Loc} {q0 n : Nat} {x : va_E} (hw : CWd E B L H0 H locs) (hx : va_at E.2.1 vcl (B + q0, x) H1) (z : H1.size = H.size) (ho : ∀ q : Nat, q ≠ B + q0 → H1[q]? = H[q]?) : CWd E B (L.set q0 x) H0 H1 (locs ++ [⟨B + q0, n⟩]) :=
  ⟨CP_set hw.1 hx ho, by rw [z, hw.2.1, List.length_set], hw.2.2.put z ho (Nat.le_add_right _ _)⟩
theorem CWd_push {E : Ev} {B : Nat} {L : List va_E} {H0 H H1 : Heap} {locs : List Loc} {x : va_E} (hw : CWd E B L H0 H locs) (hx : va_at E.2.1 vcl (B + L.length, x) H1) (z : H1.size = H.size + 1) (ho : ∀ q : Nat, q < H.size → H1[q]? = H[q]?) : CWd E B (L ++ [x]) H0 H1 locs := by
  obtain ⟨hP, hsz, hS⟩ := hw
  refine ⟨fun j y hj => ?_, by rw [z, hsz, List.length_append]; rfl, Nat.le_trans hS.1 (by omega), fun q h1 h2 => (ho q (Nat.lt_of_lt_of_le h1 hS.1)).trans (hS.2.1 q h1 h2), hS.2.2⟩
  by_cases e : j < L.length
  · rw [List.getElem?_append_left e] at hj
    exact (hP j y hj).kept (ho _ (by show B + j < H.size; omega))
  · rw [List.getElem?_append_right (by omega)] at hj
    have hz : j - L.length < 1 := (List.getElem?_eq_some_iff.mp hj).1
    have e2 : j = L.length := by omega
    subst e2
    rw [Nat.sub_self] at hj
    cases hj
    exact hx
def nsT : List (String × Nat × MethodName) := [("PartnerStack", 9, ⟨"PartnerStack$Memory", "<init>", "()V"⟩), ("PartnerStack", 18, ⟨"PartnerStack$Control", "<init>", "()V"⟩), ("PartnerStack$Operation", 9, ⟨"PartnerStack$Size", "<init>", "()V"⟩), ("PartnerStack$Steps", 9, ⟨"PartnerStack$Size", "<init>", "()V"⟩), ("PartnerStack$Reader", 9, ⟨"PartnerStack$Size", "<init>", "()V"⟩), ("PartnerStack$Writer", 9, ⟨"PartnerStack$Size", "<init>", "()V"⟩), ("PartnerStack", 65, ⟨"PartnerStack$Real", "<init>", "()V"⟩)]
def NS (U : State) : Prop := (∀ q ∈ nsT, va_Nw (.methodLinkNest q.1 q.2.1 q.2.2 "PartnerStack") U) ∧ va_AO R_Real U
theorem NS.warm {s U : State} (hW : s.WarmedH U.vm) (h : NS s) : NS U := ⟨fun q hq => va_Nw.warmM hW (h.1 q hq), va_AO.moved hW.alike h.2⟩
theorem NS.same {s U : State} (e : s.vm = U.vm) (h : NS s) : NS U := ⟨fun q hq => va_Nw.same rfl e (h.1 q hq), va_AO.moved (by rw [e]; exact Vm.Alike.refl _) h.2⟩
def Ck (p : Program) (s : State) (m : MethodId) (args : Array Value) (c : Code) (cc : ByteArray) (nL : Nat) (own : String) (E : Ev) : Prop :=
  p.tables.exec = Jvm.exec ∧ c.code = cc ∧ c.maxLocals = nL ∧ s.vm.findClass own = some m.cls ∧ (∀ w ∈ WL, w.before args s = true) ∧ va_K E.2.1 vcl (vty E) s ∧ NS s
def WC (p : Program) (l : Launch) (e : Env) (R : Room) (s : State) (m : MethodId) (args : Array Value) (below : List Frame) (meth : Method) (c : Code) (Q : State → Prop) (E : Ev) (B nL pc : Nat) (lv : List (Nat × Value)) (st : List Value) (L : List va_E) (cells slots : Nat) : Prop :=
  ∀ (H : Heap) (locs : List Loc) (ls : Array Slot), lv_has ls nL lv → CWd E B L s.heap H locs → W p l e R s m args below meth c H locs cells slots Q (F0 m pc ls st)
def CW0 (E : Ev) (B : Nat) (L : List va_E) (U : State) : Prop := CP E B L U.heap ∧ U.heap.size = B + L.length ∧ va_K E.2.1 vcl (vty E) U
def CPre (E : Ev) (B : Nat) (vs : List Value) (L : List va_E) : Array Value → State → Prop := fun a U => a = vs.toArray ∧ CW0 E B L U ∧ NS U
def CPost (E : Ev) (B : Nat) (L : List va_E) : Array Value → State → Outcome → State → Prop := fun _ st oc t => oc = .returned none ∧ CW0 E B L t ∧ st.heap.size ≤ t.heap.size ∧ ∀ q : Nat, q < st.heap.size → ¬ B ≤ q → t.heap[q]? = st.heap[q]?
def CF (l : Launch) (y : MethodName) (cc : ByteArray) (maxL : Nat) (rm : Room) (E : Ev) (B : Nat) (vs : List Value) (L L1 : List va_E) (mc ms : Nat) : Prop :=
  Met l y (Cond.code y cc maxL none :: WL) rm (CPre E B vs L) (CPost E B L1) mc ms (fun q => B ≤ q)
section K0
variable {p : Program} {l : Launch} {e : Env} {R : Room} {s : State} {m : MethodId} {args : Array Value} {below : List Frame} {meth : Method} {c : Code} {Q : State → Prop} {E : Ev} {B nL pc : Nat} {lv : List (Nat × Value)} {st : List Value} {L L1 : List va_E} {cells slots : Nat} {cc : ByteArray} {own : String}
theorem CF_intro {y : MethodName} {maxL : Nat} {rm : Room} {vs : List Value} {lv0 : List (Nat × Value)} {mc ms : Nat} (hy : plainName y.cls = true) (hn : (lg_sl vs).length ≤ maxL) (hlv : lv_args 0 vs = lv0)
    (body : ∀ (p : Program) (e : Env) (s : State) (m : MethodId) (args : Array Value) (below : List Frame) (meth : Method) (c : Code) (Q : State → Prop), Ck p s m args c cc maxL y.cls E → meth.sig.returnType = none → meth.locks = false → meth.name = y.name → Q = MQ below (CPost E B L1) args s mc ms (fun q => B ≤ q) →
      WC p l e rm s m args below meth c Q E B maxL 0 lv0 [] L 0 0) : CF l y cc maxL rm E B vs L L1 mc ms := by
  refine Met.ofW (cc := cc) (maxL := maxL) (ret := none) hy rfl ?_
  intro p e s m args below meth c s₁ Bd hml hv
  obtain ⟨rfl, ⟨hP, hsz, hK⟩, hN⟩ := hv
  have hts := atoms_spec (ws := Cond.code y cc maxL none :: WL) Bd.pre
  have hown : s.vm.findClass y.cls = some m.cls := findClass_of_methodNamed Bd.named
  have hl := lv_entry vs (n := maxL) hn
  rw [lg_entry_eq]
  rw [hlv] at hl
  have hw : CWd E B L s.heap s.heap [] := ⟨hP, hsz, va_S.rf⟩
  exact body p e s m _ below meth c _ ⟨Bd.exec, Bd.bytes, hml, hown, fun w h => hts w (List.mem_cons_of_mem _ h), hK, hN⟩ Bd.returns Bd.notSynchronized (name_of_methodNamed Bd.named Bd.method).1 rfl s.heap [] _ hl hw
theorem wc_vret (hC : Ck p s m args c cc nL own E) (hr : meth.sig.returnType = none) (hk : meth.locks = false) (d : decode cc pc = .ok (.return_, 1)) (hL : L = L1) (hQ : Q = MQ below (CPost E B L1) args s cells slots (fun q => B ≤ q)) : WC p l e R s m args below meth c Q E B nL pc lv [] L cells slots := by
  subst hQ; subst hL
  intro H locs ls hl hw
  obtain ⟨hP, hsz, hS⟩ := hw
  exact W.vret hC.1 hC.2.1 hr (fun t ht hW => ⟨rfl, ⟨by rw [ht]; exact hP, by rw [ht]; exact hsz, va_K.moved hW.alike hC.2.2.2.2.2.1⟩, by rw [ht]; exact hS.1, fun q h1 h2 => by rw [ht]; exact hS.2.1 q h1 h2⟩) hS.2.2 d hk
theorem wc_aload_n (hC : Ck p s m args c cc nL own E) {kf : Fin 4} {i x : Nat} (j : Nat) (d : decode cc pc = .ok (.aload_n kf, 1)) (hi : (kf : Nat) = i) (hj : lv[j]? = some (i, .ref x)) (k : WC p l e R s m args below meth c Q E B nL (pc + 1) lv (.ref x :: st) L cells slots) : WC p l e R s m args below meth c Q E B nL pc lv st L cells slots := fun H locs ls hl hw => lv_aload_n hC.1 hC.2.1 d hi (lv_at hl j hj) (k H locs ls hl hw)
theorem wc_iload_n (hC : Ck p s m args c cc nL own E) {kf : Fin 4} {i : Nat} {x : Int32} (j : Nat) (d : decode cc pc = .ok (.iload_n kf, 1)) (hi : (kf : Nat) = i) (hj : lv[j]? = some (i, .int x)) (k : WC p l e R s m args below meth c Q E B nL (pc + 1) lv (.int x :: st) L cells slots) : WC p l e R s m args below meth c Q E B nL pc lv st L cells slots := fun H locs ls hl hw => lv_iload_n hC.1 hC.2.1 d hi (lv_at hl j hj) (k H locs ls hl hw)
theorem wc_iconst (hC : Ck p s m args c cc nL own E) {n : Int} (v : Int32) (hv : Int32.ofInt n = v) (d : decode cc pc = .ok (.iconst n, 1)) (k : WC p l e R s m args below meth c Q E B nL (pc + 1) lv (.int v :: st) L cells slots) : WC p l e R s m args below meth c Q E B nL pc lv st L cells slots := fun H locs ls hl hw => lv_iconst hC.1 hC.2.1 d hv (k H locs ls hl hw)
theorem wc_bipush (hC : Ck p s m args c cc nL own E) {n : Int} (v : Int32) (hv : (Int8.ofInt n).toInt32 = v) (d : decode cc pc = .ok (.bipush n, 2)) (k : WC p l e R s m args below meth c Q E B nL (pc + 2) lv (.int v :: st) L cells slots) : WC p l e R s m args below meth c Q E B nL pc lv st L cells slots := fun H locs ls hl hw => lv_bipush hC.1 hC.2.1 d hv (k H locs ls hl hw)
theorem wc_sipush (hC : Ck p s m args c cc nL own E) {n : Int} (v : Int32) (hv : (Int16.ofInt n).toInt32 = v) (d : decode cc pc = .ok (.sipush n, 3)) (k : WC p l e R s m args below meth c Q E B nL (pc + 3) lv (.int v :: st) L cells slots) : WC p l e R s m args below meth c Q E B nL pc lv st L cells slots := fun H locs ls hl hw => lv_sipush hC.1 hC.2.1 d hv (k H locs ls hl hw)
theorem wc_ldc (hC : Ck p s m args c cc nL own E) {index : Nat} (v : Int32) (hw0 : Cond.constant own index v ∈ WL) (d : decode cc pc = .ok (.ldc index, 2)) (k : WC p l e R s m args below meth c Q E B nL (pc + 2) lv (.int v :: st) L cells slots) : WC p l e R s m args below meth c Q E B nL pc lv st L cells slots := fun H locs ls hl hw => lv_ldc hC.1 hC.2.1 hC.2.2.2.1 (hC.2.2.2.2.1 _ hw0) d (k H locs ls hl hw)
theorem wc_dup (hC : Ck p s m args c cc nL own E) {v : Value} (hv : v.category = 1) (d : decode cc pc = .ok (.dup, 1)) (k : WC p l e R s m args below meth c Q E B nL (pc + 1) lv (v :: v :: st) L cells slots) : WC p l e R s m args below meth c Q E B nL pc lv (v :: st) L cells slots := fun H locs ls hl hw => lv_dup hC.1 hC.2.1 d hv (k H locs ls hl hw)
theorem wc_istore_n (hC : Ck p s m args c cc nL own E) {kf : Fin 4} {i : Nat} {x : Int32} {lv2 : List (Nat × Value)} (d : decode cc pc = .ok (.istore_n kf, 1)) (hi : (kf : Nat) = i) (hn : i < nL) (h2 : (i, Value.int x) :: lv.filter (fun q => !(q.1 == i) && !(q.1 + 1 == i && q.2.category == 2)) = lv2) (k : WC p l e R s m args below meth c Q E B nL (pc + 1) lv2 st L cells slots) : WC p l e R s m args below meth c Q E B nL pc lv (.int x :: st) L cells slots := fun H locs ls hl hw => lv_istore_n hC.1 hC.2.1 d hi hl hn h2 (fun ls2 hl2 => k H locs ls2 hl2 hw)
theorem wc_istore (hC : Ck p s m args c cc nL own E) {i : Nat} {x : Int32} {lv2 : List (Nat × Value)} (d : decode cc pc = .ok (.istore i, 2)) (hn : i < nL) (h2 : (i, Value.int x) :: lv.filter (fun q => !(q.1 == i) && !(q.1 + 1 == i && q.2.category == 2)) = lv2) (k : WC p l e R s m args below meth c Q E B nL (pc + 2) lv2 st L cells slots) : WC p l e R s m args below meth c Q E B nL pc lv (.int x :: st) L cells slots := fun H locs ls hl hw => lv_istore hC.1 hC.2.1 d hl hn h2 (fun ls2 hl2 => k H locs ls2 hl2 hw)
theorem wc_astore_n (hC : Ck p s m args c cc nL own E) {kf : Fin 4} {i x : Nat} {lv2 : List (Nat × Value)} (d : decode cc pc = .ok (.astore_n kf, 1)) (hi : (kf : Nat) = i) (hn : i < nL) (h2 : (i, Value.ref x) :: lv.filter (fun q => !(q.1 == i) && !(q.1 + 1 == i && q.2.category == 2)) = lv2) (k : WC p l e R s m args below meth c Q E B nL (pc + 1) lv2 st L cells slots) : WC p l e R s m args below meth c Q E B nL pc lv (.ref x :: st) L cells slots := fun H locs ls hl hw => lv_astore_n hC.1 hC.2.1 d hi hl hn h2 (fun ls2 hl2 => k H locs ls2 hl2 hw)
theorem wc_iinc (hC : Ck p s m args c cc nL own E) {i : Nat} {n : Int} {x v : Int32} {lv2 : List (Nat × Value)} (j : Nat) (d : decode cc pc = .ok (.iinc i n, 3)) (hj : lv[j]? = some (i, .int x)) (hv : x + Int32.ofInt n = v) (hn : i < nL) (h2 : (i, Value.int v) :: lv.filter (fun q => !(q.1 == i) && !(q.1 + 1 == i && q.2.category == 2)) = lv2) (k : WC p l e R s m args below meth c Q E B nL (pc + 3) lv2 st L cells slots) : WC p l e R s m args below meth c Q E B nL pc lv st L cells slots := fun H locs ls hl hw => lv_iinc hC.1 hC.2.1 d hl hj hv hn h2 (fun ls2 hl2 => k H locs ls2 hl2 hw)
theorem wc_goto (hC : Ck p s m args c cc nL own E) {off : Int} (tgt : Nat) (d : decode cc pc = .ok (.goto off, 3)) (ht : (pc : Int) + off = (tgt : Int)) (k : WC p l e R s m args below meth c Q E B nL tgt lv st L cells slots) : WC p l e R s m args below meth c Q E B nL pc lv st L cells slots := fun H locs ls hl hw => lv_goto hC.1 hC.2.1 d ht (k H locs ls hl hw)
theorem wc_geT (hC : Ck p s m args c cc nL own E) {off : Int} {x y : Int32} (tgt : Nat) (d : decode cc pc = .ok (.if_icmp .ge off, 3)) (ht : (pc : Int) + off = (tgt : Int)) (h : y ≤ x) (k : WC p l e R s m args below meth c Q E B nL tgt lv st L cells slots) : WC p l e R s m args below meth c Q E B nL pc lv (.int y :: .int x :: st) L cells slots := fun H locs ls hl hw => lv_icmp_ge hC.1 hC.2.1 d ht (fun _ => k H locs ls hl hw) (fun h2 => absurd h h2)
theorem wc_geF (hC : Ck p s m args c cc nL own E) {off : Int} {x y : Int32} (tgt : Nat) (d : decode cc pc = .ok (.if_icmp .ge off, 3)) (ht : (pc : Int) + off = (tgt : Int)) (h : ¬ y ≤ x) (k : WC p l e R s m args below meth c Q E B nL (pc + 3) lv st L cells slots) : WC p l e R s m args below meth c Q E B nL pc lv (.int y :: .int x :: st) L cells slots := fun H locs ls hl hw => lv_icmp_ge hC.1 hC.2.1 d ht (fun h2 => absurd h2 h) (fun _ => k H locs ls hl hw)
theorem wc_obj (hC : Ck p s m args c cc nL own E) {idx x : Nat} (hl0 : Cond.methodLink own idx objectInit ∈ WL) (hi : Cond.instanceMethod objectInit ∈ WL) (hc : Cond.code objectInit ⟨#[0xb1]⟩ 1 none ∈ WL) (hf : 1 ≤ R.frames) (hlo : (st.map fun v => v.category).sum ≤ 8) (hlo2 : 20 ≤ R.locals) (d : decode cc pc = .ok (.invokespecial idx, 3)) (k : WC p l e R s m args below meth c Q E B nL (pc + 3) lv st L cells slots) : WC p l e R s m args below meth c Q E B nL pc lv (.ref x :: st) L cells slots := fun H locs ls hl hw => by
  refine W.objInit hC.1 hC.2.1 hC.2.2.2.1 (hC.2.2.2.2.1 _ hl0) (hC.2.2.2.2.1 _ hi) (hC.2.2.2.2.1 _ hc) rfl (by rw [hC.2.2.1]; exact hl.1) rfl d hf ?_ ?_
  · have := lv_room (m := m) (pc := pc) (ls := ls) (rest := .ref x :: st) hlo
    omega
  · exact k H locs ls hl hw
theorem wc_get (hC : Ck p s m args c cc nL own E) {C : String} {T : u_T} {N ci index : Nat} (hin : ∀ w ∈ u_ws C T N, w ∈ WL) (q0 : Nat) {fs : List Value} (he : L[q0]? = some (.inr (ci, fs))) (hc : vcl[ci]? = some (C, T, N)) (kf : Nat) (hk : kf < N) (hlink : Cond.fieldLink own index C (T kf).2.1 (T kf).2.2.1 ∈ WL) (hsame : (T kf).1 = C) {v : Value} (hv : fs[kf]? = some v) (d : decode cc pc = .ok (.getfield index, 3)) (k : WC p l e R s m args below meth c Q E B nL (pc + 3) lv (v :: st) L cells slots) : WC p l e R s m args below meth c Q E B nL pc lv (.ref (B + q0) :: st) L cells slots := fun H locs ls hl hw =>
  va_get hC.1 hC.2.1 hC.2.2.2.2.1 hin hC.2.2.2.1 hC.2.2.2.2.2.1 (cwl_P hw.1) q0 (cwl_at he) hc kf hk (hC.2.2.2.2.1 _ hlink) (fun x h => by rw [hsame] at h; exact h) hv d (k H locs ls hl hw)
theorem wc_put (hC : Ck p s m args c cc nL own E) {C : String} {T : u_T} {N ci index : Nat} (hin : ∀ w ∈ u_ws C T N, w ∈ WL) (ty0 : Nat → FieldType) (hty : ∀ k, k < N → parseFieldDescriptor (T k).2.2.1 = some (ty0 k)) (hnm : ∀ a, a < N → ∀ b, b < N → a ≠ b → (T a).2.1 ≠ (T b).2.1) (q0 : Nat) {fs : List Value} (he : L[q0]? = some (.inr (ci, fs))) (hc : vcl[ci]? = some (C, T, N)) (kf : Nat) (hk : kf < N) (hlink : Cond.fieldLink own index C (T kf).2.1 (T kf).2.2.1 ∈ WL) (hsame : (T kf).1 = C) (hfin : (T kf).2.2.2 = false) {ty : FieldType} {v : Value} (hd : parseFieldDescriptor (T kf).2.2.1 = some ty) (hn : narrow ty v = v) (hfit : fits ty v = true) (hl0 : kf < fs.length) (hL : L.set q0 (.inr (ci, fs.set kf v)) = L1) (d : decode cc pc = .ok (.putfield index, 3)) (k : WC p l e R s m args below meth c Q E B nL (pc + 3) lv st L1 cells slots) : WC p l e R s m args below meth c Q E B nL pc lv (v :: .ref (B + q0) :: st) L cells slots := by
  subst hL
  intro H locs ls hl hw
  have hP := hw.1
  obtain ⟨hexec, hb, -, hown, hts, hK, -⟩ := hC
  have hap := va_apart (own := own) hts hin ty0 hty hnm hK hc
  obtain ⟨r, h1, cell, q1, q2, q3, q4⟩ := hP q0 _ he
  have hr : r = (C, T, N) := Option.some.inj (h1.symm.trans hc)
  subst hr
  obtain ⟨hS, hfc, kC, hkC, hkind⟩ := hK.1 ci _ hc
  obtain ⟨cf, kf1, fi, f, hi, hsl⟩ := hS kf hk
  have hlay := hts _ (hin _ (u_in_lay hk))
  unfold u_lay at hlay
  rw [if_neg (by rw [hfin]; decide)] at hlay
  have hst := (u_facts hfc hkC (u_lays hts hin hk) hi).1
  have h6 := u_store hfc hkC hkind hlay hi hd hn hfit
  refine W.putK hexec hb (f := f) ⟨hown, hts _ hlink, ⟨_, _, _, by rw [hsame] at hi; exact hi⟩, hst⟩ (by rw [q2]; exact h6) q1 q3 (by rw [hsl]; exact k2_hasslot (q4 kf hk)) rfl rfl d fun H1 e1 e2 e3 => ?_
  rw [hsl] at e1 ⊢
  exact k H1 _ ls hl (CWd_set hw ⟨_, hc, t_OB.to (V := updV (vp_V fs) kf v) ⟨_, e1, q2, q3, t_set q4 hap hk v⟩ (fun j _ => vp_updV_set hl0 v j)⟩ e2 e3)
theorem wc_putF (hC : Ck p s m args c cc nL own E) (hin2 : meth.name = "<init>") {C : String} {T : u_T} {N ci index : Nat} (hin : ∀ w ∈ u_ws C T N, w ∈ WL) (ty0 : Nat → FieldType) (hty : ∀ k, k < N → parseFieldDescriptor (T k).2.2.1 = some (ty0 k)) (hnm : ∀ a, a < N → ∀ b, b < N → a ≠ b → (T a).2.1 ≠ (T b).2.1) (q0 : Nat) {fs : List Value} (he : L[q0]? = some (.inr (ci, fs))) (hc : vcl[ci]? = some (C, T, N)) (kf : Nat) (hk : kf < N) (hlink : Cond.fieldLink own index C (T kf).2.1 (T kf).2.2.1 ∈ WL) (hsame : (T kf).1 = C) (hown2 : C = own) (hfin : (T kf).2.2.2 = true) {ty : FieldType} {v : Value} (hd : parseFieldDescriptor (T kf).2.2.1 = some ty) (hn : narrow ty v = v) (hfit : fits ty v = true) (hl0 : kf < fs.length) (hL : L.set q0 (.inr (ci, fs.set kf v)) = L1) (d : decode cc pc = .ok (.putfield index, 3)) (k : WC p l e R s m args below meth c Q E B nL (pc + 3) lv st L1 cells slots) : WC p l e R s m args below meth c Q E B nL pc lv (v :: .ref (B + q0) :: st) L cells slots := by
  subst hL
  intro H locs ls hl hw
  have hP := hw.1
  obtain ⟨hexec, hb, -, hown, hts, hK, -⟩ := hC
  have hap := va_apart (own := own) hts hin ty0 hty hnm hK hc
  obtain ⟨r, h1, cell, q1, q2, q3, q4⟩ := hP q0 _ he
  have hr : r = (C, T, N) := Option.some.inj (h1.symm.trans hc)
  subst hr
  obtain ⟨hS, hfc, kC, hkC, hkind⟩ := hK.1 ci _ hc
  obtain ⟨cf, kf1, fi, f, hi, hsl⟩ := hS kf hk
  have hlay := hts _ (hin _ (u_in_lay hk))
  unfold u_lay at hlay
  rw [if_pos hfin] at hlay
  have hst := (u_facts hfc hkC (u_lays hts hin hk) hi).1
  have hcf : m.cls = cf := by
    obtain ⟨_, _, c', _, _, _, -, -, hf', -, -, -, hown3, -⟩ := Cond.laysFinal_spec hlay
    have e1 : c' = cf := by have := hi.symm.trans hf'; simp at this; exact this.1.symm
    rw [hsame, hown2] at hown3
    rw [← e1]; exact Option.some.inj (hown.symm.trans hown3)
  have h6 := u_fits hfc hkC hkind (Or.inr hlay) hi hd hn hfit
  refine W.putFinK hexec hb hown (hts _ hlink) (by rw [hsame] at hi; exact hi) hst hcf hin2 (by rw [q2]; exact h6) q1 q3 (by rw [hsl]; exact k2_hasslot (q4 kf hk)) rfl rfl d fun H1 e1 e2 e3 => ?_
  rw [hsl] at e1 ⊢
  exact k H1 _ ls hl (CWd_set hw ⟨_, hc, t_OB.to (V := updV (vp_V fs) kf v) ⟨_, e1, q2, q3, t_set q4 hap hk v⟩ (fun j _ => vp_updV_set hl0 v j)⟩ e2 e3)
theorem wc_new (hC : Ck p s m args c cc nL own E) {C : String} {T : u_T} {N ci index q0 : Nat} (hin : ∀ w ∈ u_ws C T N, w ∈ WL) (ty : Nat → FieldType) (hty : ∀ k, k < N → parseFieldDescriptor (T k).2.2.1 = some (ty k)) (hc : vcl[ci]? = some (C, T, N)) {fs : List Value} (hfs : ∀ j, j < N → defaultValue (ty j) = vp_V fs j) (hl0 : Cond.classLink own index C ∈ WL) (hi0 : Cond.instantiable C N ∈ WL) (hn0 : Cond.initialized C ∈ WL) (hcells : cells + 1 ≤ R.cells) (hslots : slots + N ≤ R.slots) (hq : L.length = q0) (hL : L ++ [.inr (ci, fs)] = L1) (d : decode cc pc = .ok (.new index, 3)) (k : WC p l e R s m args below meth c Q E B nL (pc + 3) lv (.ref (B + q0) :: st) L1 (cells + 1) (slots + N)) : WC p l e R s m args below meth c Q E B nL pc lv st L cells slots := by
  subst hL; subst hq
  intro H locs ls hl hw
  obtain ⟨hexec, hb, -, hown, hts, hK, -⟩ := hC
  have hKn := hK.1 ci _ hc
  refine W.newcK hexec hb hown (hts _ hl0) (hts _ hi0) (hts _ hn0) rfl d hcells hslots hKn.2.1 hw.2.1 fun H1 kC hkC e1 z1 o1 => ?_
  exact k H1 locs ls hl (CWd_push hw ⟨_, hc, (u_born ty hts hin hKn hkC e1 hty).to hfs⟩ (by rw [z1, hw.2.1]) (fun q hq => o1 q (by rw [← hw.2.1]; exact hq)))
theorem wc_newa (hC : Ck p s m args c cc nL own E) {atype : ArrayType} {ty : FieldType} (t0 : Nat) {cA : ClassId} (ht : (vty E)[t0]? = some (cA, ty)) (hty : newarray.typeOf atype = ty) (hra : ∀ U : State, va_RA U cA ty → U.vm.findClass ("[" ++ ty.toString) = some cA) (harr : Cond.arrayClass ty ∈ WL) {n : Int32} {N q0 : Nat} {a0 : vp_A} (ha : ∀ cA : ClassId, vp_cell cA a0 = arrV cA N (fun _ => defaultValue ty)) (hn : ¬ n < 0) (hN : n.toNatClampNeg = N) (hbytes : N * componentBytes ty ≤ 536870912) (hcells : cells + 1 ≤ R.cells) (hslots : slots + N ≤ R.slots) (hq : L.length = q0) (hL : L ++ [.inl (cA, a0)] = L1) (d : decode cc pc = .ok (.newarray atype, 2)) (k : WC p l e R s m args below meth c Q E B nL (pc + 2) lv (.ref (B + q0) :: st) L1 (cells + 1) (slots + N)) : WC p l e R s m args below meth c Q E B nL pc lv (.int n :: st) L cells slots := by
  subst hL; subst hq; subst hty
  intro H locs ls hl hw
  obtain ⟨hexec, hb, -, hown, hts, hK, -⟩ := hC
  refine va_newaK hexec hb (hts _ harr) rfl d rfl hn hN hbytes hcells hslots hw.2.1 fun H1 cA1 e1 z1 o1 hAr hNm => ?_
  have e : cA1 = cA := Option.some.inj (hNm.symm.trans (hra s (hK.2 t0 _ ht).2))
  subst e
  exact k H1 locs ls hl (CWd_push hw (by show H1[B + L.length]? = some (vp_cell _ _); rw [ha]; exact e1) (by rw [z1, hw.2.1]) (fun q hq => o1 q (by rw [← hw.2.1]; exact hq)))
theorem wc_newq (hC : Ck p s m args c cc nL own E) {C : String} (hCR : C = R_Real) {index : Nat} (t0 : Nat) {cA : ClassId} (ht : (vty E)[t0]? = some (cA, .object C)) (hl0 : Cond.classLink own index C ∈ WL) {n : Int32} {N q0 : Nat} (hn : ¬ n < 0) (hN : n.toNatClampNeg = N) (hbytes : N * 4 ≤ 536870912) (hcells : cells + 1 ≤ R.cells) (hslots : slots + N ≤ R.slots) (hq : L.length = q0) (hL : L ++ [.inl (cA, N, .inr (.inr (.inr (.inr (fun _ => none)))))] = L1) (d : decode cc pc = .ok (.anewarray index, 3)) (k : WC p l e R s m args below meth c Q E B nL (pc + 3) lv (.ref (B + q0) :: st) L1 (cells + 1) (slots + N)) : WC p l e R s m args below meth c Q E B nL pc lv (.int n :: st) L cells slots := by
  subst hL; subst hq; subst hN; subst hCR
  intro H locs ls hl hw
  obtain ⟨hexec, hb, -, hown, hts, hK, hNS⟩ := hC
  refine W.anew hexec hb hown (hts _ hl0) (va_AO.use hNS.2) rfl d rfl hn hbytes hcells hslots fun cA1 kA comp f1 f2 f3 f4 => ?_
  obtain ⟨kA2, comp2, -, -, -, g4⟩ := (hK.2 t0 _ ht).2
  have e : cA1 = cA := Option.some.inj (f1.symm.trans g4)
  subst e
  generalize hH1 : H.push ({ cls := cA1, slots := Array.replicate n.toNatClampNeg .null, vm := .none } : Cell) = H1
  have z1 : H1.size = H.size + 1 := by rw [← hH1, Array.size_push]
  have e1 : H1[H.size]? = some (arrV cA1 n.toNatClampNeg (fun _ => .null)) := by rw [← hH1, Array.getElem?_push_size, ← arrV_new]
  have o1 : ∀ q : Nat, q < H.size → H1[q]? = H[q]? := fun q hq => by rw [← hH1, Array.getElem?_push, if_neg (Nat.ne_of_lt hq)]
  rw [hw.2.1] at e1 ⊢
  exact k H1 locs ls hl (CWd_push hw (by show H1[B + L.length]? = some (vp_cell _ _); rw [vp_cell_q]; exact e1) z1 o1)
theorem wc_zast (hC : Ck p s m args c cc nL own E) (q0 t0 : Nat) {cA : ClassId} {n : Nat} {f f1 : Nat → Int32} (ha : L[q0]? = some (.inl (cA, n, .inl f))) (ht : (vty E)[t0]? = some (cA, .boolean)) {i x : Int32} (hin : vp_in i n) (iN : Nat) (hiN : i.toNatClampNeg = iN) (xN : Int32) (hxN : vp_nar .boolean x = xN) (hf1 : upd f iN xN = f1) (hL : L.set q0 (.inl (cA, n, .inl f1)) = L1) (d : decode cc pc = .ok (.bastore, 1)) (k : WC p l e R s m args below meth c Q E B nL (pc + 1) lv st L1 cells slots) : WC p l e R s m args below meth c Q E B nL pc lv (.int x :: .int i :: .ref (B + q0) :: st) L cells slots := by
  subst hL; subst hf1; subst hiN; subst hxN
  intro H locs ls hl hw
  obtain ⟨hexec, hb, -, hown, hts, hK, -⟩ := hC
  refine W.zast hexec hb (hw.1 q0 _ ha) ((hK.2 t0 _ ht).1 n (fun j => .int (f j))) (fun q => by cases q) (by show ¬ (i < 0 ∨ (arrV _ _ _).slots.size ≤ _); rw [arrV_size]; exact hin) rfl rfl d fun H1 e z oq => ?_
  refine k H1 _ ls hl (CWd_set hw ?_ z oq)
  show H1[B + q0]? = some (vp_cell _ _)
  rw [e]
  rw [vp_cell_i, vp_cell_i, arrV_store]
  congr 2
  funext q
  by_cases hq : q = i.toNatClampNeg
  · subst hq
    simp [updV, upd, vp_nar]
    try rfl
  · simp [updV, upd, hq]
theorem wc_aast (hC : Ck p s m args c cc nL own E) (q0 t0 qk ci : Nat) {cA : ClassId} {r : vw_C} {n : Nat} {vs : List Value} {f f1 : Nat → Option Nat} (ha : L[q0]? = some (.inl (cA, n, .inr (.inr (.inr (.inr f)))))) (ht : (vty E)[t0]? = some (cA, .object r.1)) (hv : L[qk]? = some (.inr (ci, vs))) (hc : vcl[ci]? = some r) {i : Int32} (hin : vp_in i n) (iN : Nat) (hiN : i.toNatClampNeg = iN) (hf1 : va_up f iN (some (B + qk)) = f1) (hL : L.set q0 (.inl (cA, n, .inr (.inr (.inr (.inr f1))))) = L1) (d : decode cc pc = .ok (.aastore, 1)) (k : WC p l e R s m args below meth c Q E B nL (pc + 1) lv st L1 cells slots) : WC p l e R s m args below meth c Q E B nL pc lv (.ref (B + qk) :: .int i :: .ref (B + q0) :: st) L cells slots := by
  subst hL; subst hf1; subst hiN
  intro H locs ls hl hw
  obtain ⟨hexec, hb, -, hown, hts, hK, -⟩ := hC
  have hlt : i.toNatClampNeg < n := Nat.not_le.mp fun q => hin (Or.inr q)
  have h0 : ¬ i < 0 := fun q => hin (Or.inl q)
  obtain ⟨r', hr', cellV, g1, g2, g3, -⟩ := hw.1 qk _ hv
  have hcls := (hK.1 ci r hc).2
  obtain ⟨kA, comp, k1, k2, k3, -⟩ := (hK.2 t0 _ ht).2
  have hcomp : comp = E.2.1.1 ci := Option.some.inj (k3.symm.trans hcls.1)
  subst hcomp
  obtain ⟨kC, hkC, -⟩ := hcls.2
  refine W.aast hexec hb (hw.1 q0 _ ha) (fun q h => by cases h) (fun h => by cases h) k1 k2 rfl hkC ⟨h0, by show _ < (arrV _ _ _).slots.size; rw [arrV_size]; exact hlt⟩ g1 (fun q h => by rw [g3] at h; cases h) (by rw [g2]; exact hkC) (by rw [g2]; exact va_assign hcls) rfl rfl d fun H1 e z oq => ?_
  refine k H1 _ ls hl (CWd_set hw ?_ z oq)
  show H1[B + q0]? = some (vp_cell _ _)
  rw [e]
  rw [vp_cell_q, vp_cell_q, arrV_store]
  congr 2
  funext q
  by_cases hq : q = i.toNatClampNeg
  · subst hq
    simp [updV, va_up, va_rf]
  · simp [updV, va_up, hq]
theorem wc_call {rest st0 : List Value} {mc ms : Nat} {a : Array Value} (hr : ∀ (H : Heap) (locs : List Loc) (ls : Array Slot), ls.size = nL → CWd E B L s.heap H locs → va_Run p l e R s m args below meth c H locs cells slots mc ms (F0 m pc ls st0) rest (CPost E B L1 a) (fun q => B ≤ q)) (k : WC p l e R s m args below meth c Q E B nL (pc + 3) lv rest L1 (cells + mc) (slots + ms)) : WC p l e R s m args below meth c Q E B nL pc lv st0 L cells slots := by
  intro H locs ls hl hw T hT X
  obtain ⟨v, st₀, t, T', Lc, h0, X', hL, e1, e2, ⟨hv, hB, hz, hk⟩, stp⟩ := hr H locs ls hl.1 hw T hT X
  cases hv
  rw [h0] at hz hk
  obtain ⟨hP, hsz, hS⟩ := hw
  obtain ⟨hP1, hsz1, -⟩ := hB
  have hw1 : CWd E B L1 s.heap t.heap (locs ++ Lc) := ⟨hP1, hsz1, Nat.le_trans hS.1 hz, fun q h1 h2 => (hk q (Nat.lt_of_lt_of_le h1 hS.1) h2).trans (hS.2.1 q h1 h2), fun q hq => by
      rcases List.mem_append.mp hq with h | h
      · exact hS.2.2 q h
      · exact hL q h⟩
  obtain ⟨t2, a1, b1⟩ := k t.heap (locs ++ Lc) ls hl hw1 T' e1 X'
  exact ⟨t2, stp t2 a1, b1⟩
theorem wc_blind {vs : List Value} : FrameBlind (CPre E B vs L) := fun a U g mk q => ⟨q.1, ⟨q.2.1.1, q.2.1.2.1, va_K.moved (u := U) (U := U.calling g mk a) (Vm.Alike.refl U.vm) q.2.1.2.2⟩, q.2.2.same rfl⟩
theorem wc_pre {vs : List Value} {H : Heap} {locs : List Loc} (hC : Ck p s m args c cc nL own E) (hw : CWd E B L s.heap H locs) (U : State) (hU : U.heap = H) (hW : s.WarmedH U.vm) : CPre E B vs L vs.toArray U := by
  subst hU
  exact ⟨rfl, ⟨hw.1, hw.2.1, va_K.moved hW.alike hC.2.2.2.2.2.1⟩, hC.2.2.2.2.2.2.warm hW⟩
theorem WL_in2 {y : MethodName} {bytes : ByteArray} {maxL : Nat} {ret : Option FieldType} (h0 : Cond.code y bytes maxL ret ∈ WL) : GoodIn WL (Cond.code y bytes maxL ret :: WL) := fun w h => ⟨(List.mem_cons.mp h).elim (fun e => by rw [e]; exact h0) (fun h => h), (WL_good _ h0 w h).2⟩
theorem wc_callI (hC : Ck p s m args c cc nL own E) {y : MethodName} {bytes : ByteArray} {maxL n index x mc ms : Nat} {rm : Room} {vs rest st0 : List Value} (hM : CF l y bytes maxL rm E B (.ref x :: vs) L L1 mc ms) (hy : y.cls ≠ "java/lang/invoke/MethodHandle" ∧ y.cls ≠ "java/lang/invoke/VarHandle" ∧ (parseMethodDescriptor y.desc).map (fun d => d.parameters.length) = some n) (hyn : y.name = "<init>") (h0 : Cond.code y bytes maxL none ∈ WL) (hi : Cond.initialized y.cls ∈ WL) (hin : Cond.instanceMethod y ∈ WL) (hrm : rm.cells = mc ∧ rm.slots = ms) (hn : vs.length = n) (hst : st0 = vs.reverse ++ .ref x :: rest) (hl : Cond.methodLink own index y ∈ WL) (hR : rm.frames + 1 ≤ R.frames ∧ 8 + (maxL + 11) + rm.locals ≤ R.locals) (hs8 : (rest.map fun v => v.category).sum ≤ 8) (hf : cells + mc ≤ R.cells ∧ slots + ms ≤ R.slots) (d : decode cc pc = .ok (.invokespecial index, 3)) (k : WC p l e R s m args below meth c Q E B nL (pc + 3) lv rest L1 (cells + mc) (slots + ms)) : WC p l e R s m args below meth c Q E B nL pc lv st0 L cells slots := by
  subst hst
  refine wc_call (a := (Value.ref x :: vs).toArray) (fun H locs ls hsz hw => ?_) k
  exact va_runI (As := vs) (rest := rest) (b := x) ⟨hC.1, hC.2.1, hC.2.2.1, hC.2.2.2.1, hC.2.2.2.2.1⟩ hM ⟨callB_of (ws := Cond.code y bytes maxL none :: WL) n hC.2.2.2.2.1 (WL_in2 h0) rfl hrm.1 hrm.2 (hC.2.2.2.2.1 _ hi) (hC.2.2.2.2.1 _ hl) hy hR, hyn, hC.2.2.2.2.1 _ hin⟩ ⟨wc_blind, fun U hU hW => wc_pre hC hw U hU hW⟩ rfl hn hsz rfl (lv_room hs8) d hf
theorem wc_callN (hC : Ck p s m args c cc nL own E) {y : MethodName} {bytes : ByteArray} {maxL n index x mc ms : Nat} {rm : Room} {vs rest st0 : List Value} (hM : CF l y bytes maxL rm E B (.ref x :: vs) L L1 mc ms) (hy : y.cls ≠ "java/lang/invoke/MethodHandle" ∧ y.cls ≠ "java/lang/invoke/VarHandle" ∧ (parseMethodDescriptor y.desc).map (fun d => d.parameters.length) = some n) (hyn : y.name = "<init>") (h0 : Cond.code y bytes maxL none ∈ WL) (hi : Cond.initialized y.cls ∈ WL) (hin : Cond.instanceMethod y ∈ WL) (hrm : rm.cells = mc ∧ rm.slots = ms) (hn : vs.length = n) (hst : st0 = vs.reverse ++ .ref x :: rest) (hl : (own, index, y) ∈ nsT) (hR : rm.frames + 1 ≤ R.frames ∧ 8 + (maxL + 11) + rm.locals ≤ R.locals) (hs8 : (rest.map fun v => v.category).sum ≤ 8) (hf : cells + mc ≤ R.cells ∧ slots + ms ≤ R.slots) (d : decode cc pc = .ok (.invokespecial index, 3)) (k : WC p l e R s m args below meth c Q E B nL (pc + 3) lv rest L1 (cells + mc) (slots + ms)) : WC p l e R s m args below meth c Q E B nL pc lv st0 L cells slots := by
  subst hst
  refine wc_call (a := (Value.ref x :: vs).toArray) (fun H locs ls hsz hw => ?_) k
  exact va_runIN (As := vs) (rest := rest) (b := x) (host := "PartnerStack") ⟨hC.1, hC.2.1, hC.2.2.1, hC.2.2.2.1, hC.2.2.2.2.1⟩ hM ⟨va_cnB (ws := Cond.code y bytes maxL none :: WL) n hC.2.2.2.2.1 (WL_in2 h0) rfl hrm.1 hrm.2 (hC.2.2.2.2.2.2.1 _ hl) (hC.2.2.2.2.1 _ hi) hy hR, hyn, hC.2.2.2.2.1 _ hin⟩ ⟨wc_blind, fun U hU hW => wc_pre hC hw U hU hW⟩ rfl hn hsz rfl (lv_room hs8) d hf
theorem wc_callV (hC : Ck p s m args c cc nL own E) {y : MethodName} {bytes : ByteArray} {maxL n index q0 ci mc ms : Nat} {fs : List Value} {r : vw_C} {rm : Room} {vs rest st0 : List Value} (he : L[q0]? = some (.inr (ci, fs))) (hc : vcl[ci]? = some r) (hqy : r.1 = y.cls) (hM : CF l y bytes maxL rm E B (.ref (B + q0) :: vs) L L1 mc ms) (hy : y.cls ≠ "java/lang/invoke/MethodHandle" ∧ y.cls ≠ "java/lang/invoke/VarHandle" ∧ (parseMethodDescriptor y.desc).map (fun d => d.parameters.length) = some n) (h0 : Cond.code y bytes maxL none ∈ WL) (hi : Cond.initialized y.cls ∈ WL) (hin : Cond.instanceMethod y ∈ WL) (hsel : Cond.selects y.cls y y ∈ WL) (hrm : rm.cells = mc ∧ rm.slots = ms) (hn : vs.length = n) (hst : st0 = vs.reverse ++ .ref (B + q0) :: rest) (hl : Cond.methodLink own index y ∈ WL) (hR : rm.frames + 1 ≤ R.frames ∧ 8 + (maxL + 11) + rm.locals ≤ R.locals) (hs8 : (rest.map fun v => v.category).sum ≤ 8) (hf : cells + mc ≤ R.cells ∧ slots + ms ≤ R.slots) (d : decode cc pc = .ok (.invokevirtual index, 3)) (k : WC p l e R s m args below meth c Q E B nL (pc + 3) lv rest L1 (cells + mc) (slots + ms)) : WC p l e R s m args below meth c Q E B nL pc lv st0 L cells slots := by
  subst hst
  refine wc_call (a := (Value.ref (B + q0) :: vs).toArray) (fun H locs ls hsz hw => ?_) k
  exact va_runV (As := vs) (rest := rest) (b := B + q0) (C := y.cls) ⟨hC.1, hC.2.1, hC.2.2.1, hC.2.2.2.1, hC.2.2.2.2.1⟩ hM ⟨callB_of (ws := Cond.code y bytes maxL none :: WL) n hC.2.2.2.2.1 (WL_in2 h0) rfl hrm.1 hrm.2 (hC.2.2.2.2.1 _ hi) (hC.2.2.2.2.1 _ hl) hy hR, hC.2.2.2.2.1 _ hin, hC.2.2.2.2.1 _ hsel⟩ ⟨wc_blind, by rw [← hqy]; exact va_recv hC.2.2.2.2.2.1 (cwl_P hw.1) hc (cwl_at he), fun U hU hW => wc_pre hC hw U hU hW⟩ rfl hn hsz rfl (lv_room hs8) d hf
end K0
