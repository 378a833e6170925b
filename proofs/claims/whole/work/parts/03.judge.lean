/-! the world as one list of cells, and the judgement WS: W over all heaps that hold the world -/
def cv (E : Ev) (v : Value) : Value := match v with
  | .ref o => .ref (E.1 o)
  | w => w
theorem cv_cat (E : Ev) (v : Value) : (cv E v).category = v.category := by cases v <;> rfl
def wl (E : Ev) (ω : Om) : va_W := (List.range 50).map (fun i => (E.1 i, wcell E ω i))
def AA (E : Ev) (q : Nat) : Prop := ∃ i, i < 50 ∧ q = E.1 i
theorem wl_at {E : Ev} {ω : Om} {i : Nat} (h : i < 50) : (wl E ω)[i]? = some (E.1 i, wcell E ω i) := by
  simp [wl, h]
theorem wl_of {E : Ev} {ω : Om} {k : Nat} {q : Nat × va_E} (h : (wl E ω)[k]? = some q) : k < 50 ∧ q = (E.1 k, wcell E ω k) := by
  have hl : k < 50 := by
    have := (List.getElem?_eq_some_iff.mp h).1
    simpa [wl] using this
  rw [wl_at hl] at h
  exact ⟨hl, (Option.some.inj h).symm⟩
theorem wl_set {E : Ev} {ω ω' : Om} {i : Nat} (h : i < 50) (hs : ∀ j, j < 50 → j ≠ i → wcell E ω' j = wcell E ω j) {x : Nat × va_E} (hx : x = (E.1 i, wcell E ω' i)) : (wl E ω).set i x = wl E ω' := by
  subst hx
  refine List.ext_getElem? (fun j => ?_)
  by_cases hj : j < 50
  · by_cases hji : j = i
    · subst hji
      rw [List.getElem?_set_self (by simpa [wl] using hj), wl_at hj]
    · rw [List.getElem?_set_ne (fun e => hji e.symm), wl_at hj, wl_at hj, hs j hj hji]
  · rw [List.getElem?_eq_none (by simp [wl]; omega), List.getElem?_eq_none (by simp [wl]; omega)]
def vty (E : Ev) : List (ClassId × FieldType) := [(E.2.2 0, .byte), (E.2.2 1, .int), (E.2.2 2, .long), (E.2.2 3, .boolean), (E.2.2 4, .object R_Real)]
def sA (E : Ev) (U : State) (H : Heap) (n d : String) (i : Nat) (ty : FieldType) (N : Nat) (f : Nat → Value) : Prop := va_Z R_PS n d (.ref (E.1 i)) (AA E) U H ∧ va_T ty (E.1 i) N f (AA E) U H
def Stt (E : Ev) (U : State) (H : Heap) : Prop :=
  sA E U H "BYTES_MOVED" "[I" 50 .int 64 (fun j => .int (tb0.getD j 0)) ∧ sA E U H "REGISTER_CODES" "[I" 51 .int 64 (fun j => .int (tb1.getD j 0)) ∧ sA E U H "OPERAND_FORMATS" "[I" 52 .int 64 (fun j => .int (tb2.getD j 0)) ∧
  sA E U H "CONSTANT_POWERS" "[I" 53 .int 7 (fun j => .int (tb3.getD j 0)) ∧ sA E U H "CONSTANT_FRACTIONS" "[J" 54 .long 7 (fun j => .long (tb4.getD j 0)) ∧ sA E U H "EXAMINED" "[I" 55 .int 6 (fun j => .int (tb5.getD j 0))
theorem sA.moved {E : Ev} {u U : State} {H : Heap} {n d : String} {i : Nat} {ty : FieldType} {N : Nat} {f : Nat → Value} (hvm : u.vm.Alike U.vm) (h : sA E u H n d i ty N f) : sA E U H n d i ty N f := ⟨h.1.moved hvm, h.2.moved hvm⟩
theorem sA.kept {E : Ev} {U : State} {H H1 : Heap} {n d : String} {i : Nat} {ty : FieldType} {N : Nat} {f : Nat → Value} (h : sA E U H n d i ty N f) (hq : ∀ a : Nat, a < H.size → ¬ AA E a → H1[a]? = H[a]?) : sA E U H1 n d i ty N f := ⟨h.1.kept hq, h.2.kept hq⟩
theorem Stt.moved {E : Ev} {u U : State} {H : Heap} (hvm : u.vm.Alike U.vm) (h : Stt E u H) : Stt E U H :=
  ⟨h.1.moved hvm, h.2.1.moved hvm, h.2.2.1.moved hvm, h.2.2.2.1.moved hvm, h.2.2.2.2.1.moved hvm, h.2.2.2.2.2.moved hvm⟩
theorem Stt.kept {E : Ev} {U : State} {H H1 : Heap} (h : Stt E U H) (hq : ∀ a : Nat, a < H.size → ¬ AA E a → H1[a]? = H[a]?) : Stt E U H1 :=
  ⟨h.1.kept hq, h.2.1.kept hq, h.2.2.1.kept hq, h.2.2.2.1.kept hq, h.2.2.2.2.1.kept hq, h.2.2.2.2.2.kept hq⟩
/-- what the reference's row of tops and powers holds, so that sums stay in their row -/
def InvP (τ : St) : Prop := (0 ≤ (gI τ 104 0).toInt ∧ 0 ≤ (gI τ 104 1).toInt) ∧ (0 ≤ (gI τ 107 0).toInt ∧ (gI τ 107 0).toInt ≤ 32767) ∧ 0 ≤ (gI τ 107 1).toInt ∧ (gI τ 107 1).toInt ≤ 32767
/-- what every state holds: places in the rows, so that no read is out of them -/
def Inv (ω : Om) : Prop := vp_in (gI ω.1 0 0) 8 ∧ vp_in (gI ω.2.1 1 30) 8 ∧ vp_in (gI ω.2.1 10 30) 8 ∧ vp_in (gI ω.2.1 11 30) 8 ∧ vp_in (gI ω.2.1 12 30) 8 ∧ 0 ≤ (gI ω.2.1 18 35).toInt ∧ (gI ω.2.1 18 35).toInt ≤ 33000 ∧ InvP ω.2.1
theorem iv36 {σ τ : St} {q : Int64} {i : Nat} {v : Int32} (hI : Inv (σ, τ, q)) (hv : i < 2 → 0 ≤ v.toInt) : Inv (σ, sI τ 104 i v, q) := by
  obtain ⟨h1, h2, h3, h4, h5, h6, h7, ⟨h8, h9⟩, h10⟩ := hI
  refine ⟨h1, h2, h3, h4, h5, h6, h7, ⟨?_, ?_⟩, h10⟩
  · show 0 ≤ (gI (sI τ 104 i v) 104 0).toInt
    rw [gI_sI, if_pos rfl]
    split
    · exact hv (by omega)
    · exact h8
  · show 0 ≤ (gI (sI τ 104 i v) 104 1).toInt
    rw [gI_sI, if_pos rfl]
    split
    · exact hv (by omega)
    · exact h9
theorem iv39 {σ τ : St} {q : Int64} {i : Nat} {v : Int32} (hI : Inv (σ, τ, q)) (hv : 0 ≤ v.toInt ∧ v.toInt ≤ 32767) : Inv (σ, sI τ 107 i v, q) := by
  obtain ⟨h1, h2, h3, h4, h5, h6, h7, h8, h9, h10⟩ := hI
  refine ⟨h1, h2, h3, h4, h5, h6, h7, h8, ?_, ?_⟩
  · show 0 ≤ (gI (sI τ 107 i v) 107 0).toInt ∧ (gI (sI τ 107 i v) 107 0).toInt ≤ 32767
    rw [gI_sI, if_pos rfl]
    split
    · exact hv
    · exact h9
  · show 0 ≤ (gI (sI τ 107 i v) 107 1).toInt ∧ (gI (sI τ 107 i v) 107 1).toInt ≤ 32767
    rw [gI_sI, if_pos rfl]
    split
    · exact hv
    · exact h10
/-- the world at a state: what a method takes and gives back -/
def World0 (E : Ev) (ω : Om) (U : State) : Prop := va_P E.2.1 vcl (wl E ω) U.heap ∧ va_K E.2.1 vcl (vty E) U ∧ va_D (fun _ => True) (wl E ω) ∧ Stt E U U.heap ∧ Inv ω
def Pre0 (E : Ev) (vs : List Value) (ω : Om) : Array Value → State → Prop := fun a U => a = (vs.map (cv E)).toArray ∧ World0 E ω U
def Post0 (E : Ev) (r : Option Value) (ω' : Om) : Array Value → State → Outcome → State → Prop := fun _ st oc t => oc = .returned (r.map (cv E)) ∧ World0 E ω' t ∧ st.heap.size ≤ t.heap.size ∧ ∀ q : Nat, q < st.heap.size → ¬ AA E q → t.heap[q]? = st.heap[q]?
/-- a method's contract over the whole world: with the values vs, at ω, it gives r, and ω' is behind it -/
def MF (l : Launch) (y : MethodName) (cc : ByteArray) (maxL : Nat) (ret : Option FieldType) (rm : Room) (E : Ev) (vs : List Value) (ω : Om) (r : Option Value) (ω' : Om) : Prop :=
  Met l y (Cond.code y cc maxL ret :: WL) rm (Pre0 E vs ω) (Post0 E r ω') 0 0 (AA E)
def Wd (E : Ev) (ω : Om) (H0 H : Heap) (locs : List Loc) : Prop := (va_P E.2.1 vcl (wl E ω) H ∧ Inv ω) ∧ va_D (AA E) (wl E ω) ∧ va_S (AA E) H0 H locs
def Cx (p : Program) (s : State) (m : MethodId) (args : Array Value) (c : Code) (cc : ByteArray) (nL : Nat) (own : String) (E : Ev) : Prop :=
  p.tables.exec = Jvm.exec ∧ c.code = cc ∧ c.maxLocals = nL ∧ s.vm.findClass own = some m.cls ∧ (∀ w ∈ WL, w.before args s = true) ∧ va_K E.2.1 vcl (vty E) s ∧ Stt E s s.heap
def WS (p : Program) (l : Launch) (e : Env) (R : Room) (s : State) (m : MethodId) (args : Array Value) (below : List Frame) (meth : Method) (c : Code) (Q : State → Prop) (E : Ev) (nL pc : Nat) (lv : List (Nat × Value)) (st : List Value) (ω : Om) : Prop :=
  ∀ (H : Heap) (locs : List Loc) (ls : Array Slot), lv_has ls nL (lv.map (fun q => (q.1, cv E q.2))) → Wd E ω s.heap H locs → W p l e R s m args below meth c H locs 0 0 Q (F0 m pc ls (st.map (cv E)))
section J0
variable {p : Program} {l : Launch} {e : Env} {R : Room} {s : State} {m : MethodId} {args : Array Value} {below : List Frame} {meth : Method} {c : Code} {Q : State → Prop} {E : Ev} {nL pc : Nat} {lv : List (Nat × Value)} {st : List Value} {ω : Om} {cc : ByteArray} {own : String}
theorem MF_intro {y : MethodName} {maxL : Nat} {ret : Option FieldType} {rm : Room} {vs : List Value} {r : Option Value} {ω' : Om} {lv0 : List (Nat × Value)} (hy : plainName y.cls = true) (hc : Cond.code y cc maxL ret ∈ WL) (hn : (lg_sl (vs.map (cv E))).length ≤ maxL) (hlv : lv_args 0 (vs.map (cv E)) = lv0.map (fun q => (q.1, cv E q.2)))
    (body : ∀ (p : Program) (e : Env) (s : State) (m : MethodId) (args : Array Value) (below : List Frame) (meth : Method) (c : Code) (Q : State → Prop), Cx p s m args c cc maxL y.cls E → meth.sig.returnType = ret → meth.locks = false → Q = MQ below (Post0 E r ω') args s 0 0 (AA E) →
      WS p l e rm s m args below meth c Q E maxL 0 lv0 [] ω) : MF l y cc maxL ret rm E vs ω r ω' := by
  refine Met.ofW (cc := cc) (maxL := maxL) (ret := ret) hy rfl ?_
  intro p e s m args below meth c s₁ B hml hv
  obtain ⟨rfl, hP, hK, hD, hT, hI⟩ := hv
  have hts := atoms_spec (ws := Cond.code y cc maxL ret :: WL) B.pre
  have hown : s.vm.findClass y.cls = some m.cls := findClass_of_methodNamed B.named
  have hl := lv_entry (vs.map (cv E)) (n := maxL) hn
  rw [lg_entry_eq]
  rw [hlv] at hl
  have hw : Wd E ω s.heap s.heap [] := ⟨⟨hP, hI⟩, ⟨hD.1, fun k q hk => ⟨k, (wl_of hk).1, by rw [(wl_of hk).2]⟩⟩, va_S.rf⟩
  exact body p e s m _ below meth c _ ⟨B.exec, B.bytes, hml, hown, fun w h => hts w (List.mem_cons_of_mem _ h), hK, hT⟩ B.returns B.notSynchronized rfl s.heap [] _ hl hw
/-- what stands behind a return -/
theorem wi_post {r : Option Value} {ω' : Om} {H : Heap} {locs : List Loc} (hC : Cx p s m args c cc nL own E) (hw : Wd E ω s.heap H locs) (hω : ω = ω') {v : Option Value} (hv : v = r.map (cv E)) (t : State) (ht : t.heap = H) (hW : s.WarmedH t.vm) : Post0 E r ω' args s (.returned v) t := by
  subst hω; subst hv; subst ht
  obtain ⟨⟨hP, hI⟩, hD, hS⟩ := hw
  exact ⟨rfl, ⟨hP, va_K.moved hW.alike hC.2.2.2.2.2.1, ⟨hD.1, fun _ _ _ => trivial⟩, (hC.2.2.2.2.2.2.kept hS.2.1).moved hW.alike, hI⟩, hS.1, hS.2.1⟩
theorem wi_iret {r : Option Value} {ω' : Om} {v : Int32} (hC : Cx p s m args c cc nL own E) (hr : meth.sig.returnType = some .int) (hk : meth.locks = false) (d : decode cc pc = .ok (.ireturn, 1)) (hv : r = some (.int v)) (hω : ω = ω') (hQ : Q = MQ below (Post0 E r ω') args s 0 0 (AA E)) : WS p l e R s m args below meth c Q E nL pc lv [.int v] ω := by
  subst hQ
  intro H locs ls hl hw
  exact W.iret hC.1 hC.2.1 hr (wi_post hC hw hω (by rw [hv]; rfl)) hw.2.2.2.2 d hk
theorem wi_zret {r : Option Value} {ω' : Om} {v : Int32} {b : Bool} (hC : Cx p s m args c cc nL own E) (hr : meth.sig.returnType = some .boolean) (hk : meth.locks = false) (d : decode cc pc = .ok (.ireturn, 1)) (hb : v = bI b) (hv : r = some (.int (bI b))) (hω : ω = ω') (hQ : Q = MQ below (Post0 E r ω') args s 0 0 (AA E)) : WS p l e R s m args below meth c Q E nL pc lv [.int v] ω := by
  subst hQ
  intro H locs ls hl hw
  subst hb
  exact W.zret hC.1 hC.2.1 hr (by cases b <;> decide) (wi_post hC hw hω (by rw [hv]; rfl)) hw.2.2.2.2 d hk
theorem wi_lret {r : Option Value} {ω' : Om} {v : Int64} (hC : Cx p s m args c cc nL own E) (hr : meth.sig.returnType = some .long) (hk : meth.locks = false) (d : decode cc pc = .ok (.lreturn, 1)) (hv : r = some (.long v)) (hω : ω = ω') (hQ : Q = MQ below (Post0 E r ω') args s 0 0 (AA E)) : WS p l e R s m args below meth c Q E nL pc lv [.long v] ω := by
  subst hQ
  intro H locs ls hl hw
  exact W.lret hC.1 hC.2.1 hr (wi_post hC hw hω (by rw [hv]; rfl)) hw.2.2.2.2 d hk
theorem wi_vret {r : Option Value} {ω' : Om} (hC : Cx p s m args c cc nL own E) (hr : meth.sig.returnType = none) (hk : meth.locks = false) (d : decode cc pc = .ok (.return_, 1)) (hv : r = none) (hω : ω = ω') (hQ : Q = MQ below (Post0 E r ω') args s 0 0 (AA E)) : WS p l e R s m args below meth c Q E nL pc lv [] ω := by
  subst hQ
  intro H locs ls hl hw
  exact W.vret hC.1 hC.2.1 hr (wi_post hC hw hω (by rw [hv]; rfl)) hw.2.2.2.2 d hk
end J0
