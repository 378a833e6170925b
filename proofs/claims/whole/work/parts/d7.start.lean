/-! THE CLAIM OUT OF ONE WALK OF THE LAW'S BODY. Your part is whole_start (and what it stands on); all else here is the same for every law, but numbers. -/
def R_law : String := "PartnerStackLaw"
def lw_P (b : Addr) (xs : List Int32) (args : Array Value) (s : State) : Prop := args = #[.ref b] ∧ s.IntsAt b xs ∧ xs.length ≤ 2560 ∧ (Jvm.Cond.and given_1 narrow_1).before args s = true
def lw_Q (_ : Array Value) (s : State) (o : Outcome) (t : State) : Prop := o = .returned (some (.int 1)) ∧ Framed s o t [] 601024 7293034
def lw_Z (below : List Frame) (a : Array Value) (s : State) : State → Prop := fun t => ∃ o, t.status = .running ∧ Ended t below o ∧ lw_Q a s o t
/-- the law's own end, with 1 on the stack, nothing written that was there before, its room as the claim has it -/
theorem lw_ret {p : Program} {l : Launch} {e : Env} {s : State} {m : MethodId} {below : List Frame} {meth : Method} {c : Code} {b : Nat} (hx : p.tables.exec = Jvm.exec) (hb : c.code = code) (hr : meth.sig.returnType = ret) (hlocks : meth.locks = false) {pc : Nat} {H : Heap} {ls : Array Slot} (hdg : decode code pc = .ok (.ireturn, 1)) : W p l e room_1 s m #[Value.ref b] below meth c H [] 601024 7293034 (lw_Z below #[Value.ref b] s) (F0 m pc ls [.int 1]) := by
  intro T hT X
  obtain ⟨fs, hret, hrun, hended, hW, hframe⟩ := X.leave (v := some (.int 1)) (hlocks := hlocks) (fun h => by rw [hr] at h; cases h)
  have hmeth' : T.vm.method? m = some meth := X.method'
  refine ⟨T.setFrames fs, ?_, .returned (some (.int 1)), hrun, hended, rfl, ⟨_, rfl⟩, hW, hframe⟩
  jvm_step X.here [X.here.top, hx, hb, hdg, hmeth', hr, ret, narrow_b1]
  (try refine ⟨rfl, ?_⟩); (try refine ⟨rfl, ?_⟩)
  first | (intro acts; rw [hret _ acts rfl rfl rfl]) | rw [hret _ _ rfl rfl rfl]
  exact Steps.refl _
/-- what holds at the law's entry: the machine, the code, the tables' words (any of lw_tbl by 'hts w (by decide +kernel)'), the script of L ints xs at the cell b, what the Statement gives of the start (any of its parts by flat_of_before) -/
def lw_At (p : Program) (s : State) (m : MethodId) (meth : Method) (c : Code) (b L : Nat) (xs : Nat → Int32) : Prop :=
  p.tables.exec = Jvm.exec ∧ c.code = code ∧ meth.sig.returnType = ret ∧ c.maxLocals = 7 ∧ s.vm.findClass R_law = some m.cls ∧ (∀ w ∈ lw_tbl, w.before #[Value.ref b] s = true) ∧ va_X b L xs s s.heap ∧ b < s.heap.size ∧ meth.locks = false ∧ (Jvm.Cond.and given_1 narrow_1).before #[Value.ref b] s = true
theorem law_end {p : Program} {l : Launch} {e : Env} {s : State} {m : MethodId} {below : List Frame} {meth : Method} {c : Code} {E : Ev} {B b Ln : Nat} {xs : Nat → Int32} (hC : Cl p s m #[Value.ref b] c E B b Ln xs) (hr : meth.sig.returnType = ret) (hlk : meth.locks = false) (lv : List (Nat × Value)) (ω : Om) (cells slots : Nat) (h1 : cells ≤ 601024) (h2 : slots ≤ 7293034) : WV p l e s m #[Value.ref b] below meth c (lw_Z below #[Value.ref b] s) E B 470 lv [] ω cells slots := by
  intro H locs ls hl hw
  refine va_forget (fun q hq => ?_) ?_
  · have h3 := hw.2.2.2.2 q hq
    rw [hC.2.2.2.1]
    exact h3
  refine W.widen h1 h2 ?_
  refine lv_iconst (v := 1) hC.1.1 hC.1.2.1 d_law_470 (by decide) ?_
  exact lw_ret hC.1.1 hC.1.2.1 hr hlk d_law_471
set_option maxRecDepth 20000 in
set_option maxHeartbeats 4000000 in
/-- from the entry, for every script of at most 2560 ints, the law comes to its end with true -/
theorem whole_start {p : Program} {e : Env} {s : State} {m : MethodId} {below : List Frame} {meth : Method} {c : Code} (l : Launch) (hl0 : l.stackTraces = false) {b L : Nat} {xs : Nat → Int32} (hL : L ≤ 2560) (C0 : lw_At p s m meth c b L xs) : W p l e room_1 s m #[Value.ref b] below meth c s.heap [] 0 0 (lw_Z below #[Value.ref b] s) (entryFrame m ([Value.ref b] : List Value).toArray 7) := by
  obtain ⟨hx, hb, hr, hml, hown, hts0, hX, hbl, hlk, hgv⟩ := C0
  have hg : ∀ w ∈ fl1, w.before #[Value.ref b] s = true := flat_of_before _ hgv
  have hts : ∀ w ∈ WL, w.before #[Value.ref b] s = true := fun w hw => hts0 w (List.mem_filter.mp hw).1
  have hNS := ent_NS hts0
  obtain ⟨D, cA, hK⟩ := ent_K hts hNS.2
  obtain ⟨ta, hT⟩ := ent_Stt hts0 hg
  generalize hE : ((adr s.heap.size ta, D, cA) : Ev) = E
  have hKE : va_K E.2.1 vcl (vty E) s := by rw [← hE]; exact hK _
  have hSt : Stt E s s.heap := by rw [← hE]; exact hT D cA
  have hAA : ∀ q, AA E q → s.heap.size ≤ q := by rw [← hE]; exact fun q h => adr_AA h
  have hA : ∀ a : Nat, a < s.heap.size → ¬ AA E a := fun a h z => by
    have := hAA a z
    omega
  have hCl : Cl p s m #[Value.ref b] c E s.heap.size b L xs := ⟨⟨hx, hb, hml, hown, hts, hKE, hSt⟩, ⟨ent_Z hts0 hg hA, ent_S hts0, ent_N hg⟩, ⟨hX, hbl⟩, rfl, hAA⟩
  have hl := lv_entry [Value.ref b] (n := 7) (Nat.le_of_ble_eq_true rfl)
  rw [lg_entry_eq]
  refine law_head (Q := lw_Z below #[Value.ref b] s) (args := #[Value.ref b]) l E s.heap.size b ⟨hx, hb, hml, hown, hts, hKE, hNS⟩ ?_ s.heap [] _ hl ⟨fun k x h => (by cases h), rfl, va_S.rf⟩
  intro H locs ls hl hw
  have key := law_loop (l := l) (e := e) (below := below) (meth := meth) (Q := lw_Z below #[Value.ref b] s) hCl hl0 hL (fun lv ω cells slots h1 h2 => law_end hCl hr hlk lv ω cells slots h1 h2) 512 0 σ0 τ0 0 (by omega) (by omega) Rest0
  subst hE
  exact key H locs ls hl ⟨⟨world0 hw.1, Inv0 0⟩, adr_D, hw.2.2⟩
