/-! what holds at the law's entry -/
theorem arr_ext {cA : ClassId} {N : Nat} {f g : Nat → Value} (h : ∀ j, j < N → f j = g j) : arrV cA N f = arrV cA N g := by
  unfold arrV
  congr 2
  funext j
  exact h j.1 j.2
def posL : List Nat := [0, 1, 2, 3, 5, 6, 9, 10, 13, 15, 7, 11, 18, 19, 20, 21, 22, 23, 24, 25, 26, 27, 28, 29, 4, 8, 12, 14, 16, 17, 30, 31, 32, 33, 34, 35, 36, 37, 38, 39, 40, 41, 42, 43, 44, 45, 46, 47, 48, 49]
def adr (B : Nat) (ta : Nat → Nat) (i : Nat) : Nat := if i < 50 then B + posL.getD i 0 else ta i
theorem posL_inj : ∀ i, i < 50 → ∀ j, j < 50 → posL.getD i 0 = posL.getD j 0 → i = j := by decide +kernel
theorem adr_AA {B : Nat} {ta : Nat → Nat} {D : va_G} {cA : Nat → ClassId} {q : Nat} (h : AA (adr B ta, D, cA) q) : B ≤ q := by
  obtain ⟨i, hi, rfl⟩ := h
  show B ≤ adr B ta i
  unfold adr
  rw [if_pos hi]
  exact Nat.le_add_right _ _
theorem adr_D {B : Nat} {ta : Nat → Nat} {D : va_G} {cA : Nat → ClassId} {ω : Om} : va_D (AA (adr B ta, D, cA)) (wl (adr B ta, D, cA) ω) := by
  refine ⟨fun i j x y hi hj h => ?_, fun k q hk => ⟨k, (wl_of hk).1, by rw [(wl_of hk).2]⟩⟩
  obtain ⟨a1, rfl⟩ := wl_of hi
  obtain ⟨a2, rfl⟩ := wl_of hj
  have h : adr B ta i = adr B ta j := h
  unfold adr at h
  rw [if_pos a1, if_pos a2] at h
  exact posL_inj i a1 j a2 (Nat.add_left_cancel h)
set_option maxRecDepth 20000 in
set_option maxHeartbeats 4000000 in
theorem world0 {B : Nat} {ta : Nat → Nat} {D : va_G} {cA : Nat → ClassId} {H : Heap} (hP : CP (adr B ta, D, cA) B (L50 (adr B ta, D, cA) B) H) : va_P D vcl (wl (adr B ta, D, cA) (σ0, τ0, 0)) H := by
  intro k x hk
  obtain ⟨hk, rfl⟩ := wl_of hk
  have hc : k = 0 ∨ k = 1 ∨ k = 2 ∨ k = 3 ∨ k = 4 ∨ k = 5 ∨ k = 6 ∨ k = 7 ∨ k = 8 ∨ k = 9 ∨ k = 10 ∨ k = 11 ∨ k = 12 ∨ k = 13 ∨ k = 14 ∨ k = 15 ∨ k = 16 ∨ k = 17 ∨ k = 18 ∨ k = 19 ∨ k = 20 ∨ k = 21 ∨ k = 22 ∨ k = 23 ∨ k = 24 ∨ k = 25 ∨ k = 26 ∨ k = 27 ∨ k = 28 ∨ k = 29 ∨ k = 30 ∨ k = 31 ∨ k = 32 ∨ k = 33 ∨ k = 34 ∨ k = 35 ∨ k = 36 ∨ k = 37 ∨ k = 38 ∨ k = 39 ∨ k = 40 ∨ k = 41 ∨ k = 42 ∨ k = 43 ∨ k = 44 ∨ k = 45 ∨ k = 46 ∨ k = 47 ∨ k = 48 ∨ k = 49 := by omega
  rcases hc with rfl | rfl | rfl | rfl | rfl | rfl | rfl | rfl | rfl | rfl | rfl | rfl | rfl | rfl | rfl | rfl | rfl | rfl | rfl | rfl | rfl | rfl | rfl | rfl | rfl | rfl | rfl | rfl | rfl | rfl | rfl | rfl | rfl | rfl | rfl | rfl | rfl | rfl | rfl | rfl | rfl | rfl | rfl | rfl | rfl | rfl | rfl | rfl | rfl | rfl
  · exact hP 0 _ rfl
  · exact hP 1 _ rfl
  · exact hP 2 _ rfl
  · exact hP 3 _ rfl
  · exact hP 5 _ rfl
  · exact hP 6 _ rfl
  · exact hP 9 _ rfl
  · exact hP 10 _ rfl
  · exact hP 13 _ rfl
  · exact hP 15 _ rfl
  · exact hP 7 _ rfl
  · exact hP 11 _ rfl
  · exact hP 18 _ rfl
  · exact hP 19 _ rfl
  · exact hP 20 _ rfl
  · exact hP 21 _ rfl
  · exact hP 22 _ rfl
  · exact hP 23 _ rfl
  · exact hP 24 _ rfl
  · exact hP 25 _ rfl
  · exact hP 26 _ rfl
  · exact hP 27 _ rfl
  · exact hP 28 _ rfl
  · exact hP 29 _ rfl
  · exact hP 4 _ rfl
  · exact hP 8 _ rfl
  · exact hP 12 _ rfl
  · exact hP 14 _ rfl
  · have h := hP 16 _ rfl
    show H[B + 16]? = some (vp_cell (cA 4) (8, .inr (.inr (.inr (.inr (fun j => some (adr B ta (16 + j))))))))
    refine Eq.trans h ?_
    show some (vp_cell (cA 4) _) = _
    rw [vp_cell_q, vp_cell_q]
    exact congrArg some (arr_ext (fun j hj => by rcases (show j = 0 ∨ j = 1 ∨ j = 2 ∨ j = 3 ∨ j = 4 ∨ j = 5 ∨ j = 6 ∨ j = 7 by omega) with rfl | rfl | rfl | rfl | rfl | rfl | rfl | rfl <;> rfl))
  · have h := hP 17 _ rfl
    show H[B + 17]? = some (vp_cell (cA 3) (8, .inl (fun j => bI (gZ σ0 101 j))))
    refine Eq.trans h ?_
    show some (vp_cell (cA 3) _) = _
    rw [vp_cell_i, vp_cell_i]
    exact congrArg some (arr_ext (fun j hj => by rcases (show j = 0 ∨ j = 1 ∨ j = 2 ∨ j = 3 ∨ j = 4 ∨ j = 5 ∨ j = 6 ∨ j = 7 by omega) with rfl | rfl | rfl | rfl | rfl | rfl | rfl | rfl <;> rfl))
  · exact hP 30 _ rfl
  · exact hP 31 _ rfl
  · exact hP 32 _ rfl
  · exact hP 33 _ rfl
  · have h := hP 34 _ rfl
    show H[B + 34]? = some (vp_cell (cA 3) (8, .inl (fun j => bI (gZ τ0 103 j))))
    refine Eq.trans h ?_
    show some (vp_cell (cA 3) _) = _
    rw [vp_cell_i, vp_cell_i]
    exact congrArg some (arr_ext (fun j hj => by rcases (show j = 0 ∨ j = 1 ∨ j = 2 ∨ j = 3 ∨ j = 4 ∨ j = 5 ∨ j = 6 ∨ j = 7 by omega) with rfl | rfl | rfl | rfl | rfl | rfl | rfl | rfl <;> rfl))
  · exact hP 35 _ rfl
  · exact hP 36 _ rfl
  · exact hP 37 _ rfl
  · exact hP 38 _ rfl
  · exact hP 39 _ rfl
  · exact hP 40 _ rfl
  · exact hP 41 _ rfl
  · exact hP 42 _ rfl
  · exact hP 43 _ rfl
  · exact hP 44 _ rfl
  · exact hP 45 _ rfl
  · exact hP 46 _ rfl
  · exact hP 47 _ rfl
  · exact hP 48 _ rfl
  · exact hP 49 _ rfl
theorem ent_K {s : State} {args : Array Value} (hts : ∀ w ∈ WL, w.before args s = true) (hAO : va_AO R_Real s) : ∃ (D : va_G) (cA : Nat → ClassId), ∀ E1 : Nat → Nat, va_K D vcl (vty (E1, D, cA)) s := by
  have kn : ∀ {C : String} {T : u_T} {N n : Nat}, (∀ w ∈ u_ws C T N, w ∈ WL) → Cond.instantiable C n ∈ WL → ∃ r : ClassId × (Nat → Nat), u_Kn s C T N r.1 r.2 := fun hin hi => by
    obtain ⟨cC, iS, h⟩ := u_known hts hin (hts _ hi)
    exact ⟨(cC, iS), h⟩
  have fin : ∀ {q0 : vw_C} {c : Nat}, vcl[c]? = some q0 → (∃ r : ClassId × (Nat → Nat), u_Kn s q0.1 q0.2.1 q0.2.2 r.1 r.2) → ∃ r : ClassId × (Nat → Nat), ∀ q : vw_C, vcl[c]? = some q → u_Kn s q.1 q.2.1 q.2.2 r.1 r.2 := fun e h => by
    obtain ⟨r, hr⟩ := h
    refine ⟨r, fun q hq => ?_⟩
    cases e.symm.trans hq
    exact hr
  have h : ∀ c : Nat, ∃ r : ClassId × (Nat → Nat), ∀ q : vw_C, vcl[c]? = some q → u_Kn s q.1 q.2.1 q.2.2 r.1 r.2 := by
    intro c
    by_cases hc : c < 14
    · have h14 : c = 0 ∨ c = 1 ∨ c = 2 ∨ c = 3 ∨ c = 4 ∨ c = 5 ∨ c = 6 ∨ c = 7 ∨ c = 8 ∨ c = 9 ∨ c = 10 ∨ c = 11 ∨ c = 12 ∨ c = 13 := by omega
      rcases h14 with rfl | rfl | rfl | rfl | rfl | rfl | rfl | rfl | rfl | rfl | rfl | rfl | rfl | rfl
      · exact fin (q0 := (R_PS, F_PS, _)) rfl (kn i_PS ins_PS)
      · exact fin (q0 := (R_Mem, F_Mem, _)) rfl (kn i_Mem ins_Mem)
      · exact fin (q0 := (R_Ctl, F_Ctl, _)) rfl (kn i_Ctl ins_Ctl)
      · exact fin (q0 := (R_Size, F_Size, _)) rfl (kn i_Size ins_Size)
      · exact fin (q0 := (R_Maker, F_Maker, _)) rfl (kn i_Maker ins_Maker)
      · exact fin (q0 := (R_Real, F_Real, _)) rfl (kn i_Real ins_Real)
      · exact fin (q0 := (R_Oper, F_Oper, _)) rfl (kn i_Oper ins_Oper)
      · exact fin (q0 := (R_Steps, F_Steps, _)) rfl (kn i_Steps ins_Steps)
      · exact fin (q0 := (R_Rd, F_Rd, _)) rfl (kn i_Rd ins_Rd)
      · exact fin (q0 := (R_Wr, F_Wr, _)) rfl (kn i_Wr ins_Wr)
      · exact fin (q0 := (R_M, F_M, _)) rfl (kn i_M ins_M)
      · exact fin (q0 := (R_MO, F_MO, _)) rfl (kn i_MO ins_MO)
      · exact fin (q0 := (R_MS, F_MS, _)) rfl (kn i_MS ins_MS)
      · exact fin (q0 := (R_MC, F_MC, _)) rfl (kn i_MC ins_MC)
    · refine ⟨(0, fun _ => 0), fun q hq => ?_⟩
      rw [List.getElem?_eq_none (by show 14 ≤ c; omega)] at hq
      cases hq
  have pr : ∀ {ty : FieldType}, Cond.arrayClass ty ∈ WL → ∃ cA : ClassId, ArrOfT s cA ty ∧ s.vm.findClass ("[" ++ ty.toString) = some cA := fun hw => by
    obtain ⟨c, kA, comp, h1, h2, h3⟩ := Cond.arrayClass_spec (hts _ hw)
    exact ⟨c, fun n z => ⟨fun k h => (by cases h), kA, h2, comp, h3⟩, h1⟩
  obtain ⟨c0, p0, r0⟩ := pr arr_byte
  obtain ⟨c1, p1, r1⟩ := pr arr_int
  obtain ⟨c2, p2, r2⟩ := pr arr_long
  obtain ⟨c3, p3, r3⟩ := pr arr_boolean
  obtain ⟨comp, c4, kA, f1, -, f3, f4, f5⟩ := Cond.arrayOver_spec hAO
  refine ⟨(fun c => (Classical.choose (h c)).1, fun c => (Classical.choose (h c)).2), fun k => [c0, c1, c2, c3, c4].getD k 0, fun E1 => ⟨fun c q hq => Classical.choose_spec (h c) q hq, fun k q hq => ?_⟩⟩
  by_cases hk : k < 5
  · have h5 : k = 0 ∨ k = 1 ∨ k = 2 ∨ k = 3 ∨ k = 4 := by omega
    rcases h5 with rfl | rfl | rfl | rfl | rfl
    · cases hq; exact ⟨p0, r0⟩
    · cases hq; exact ⟨p1, r1⟩
    · cases hq; exact ⟨p2, r2⟩
    · cases hq; exact ⟨p3, r3⟩
    · cases hq; exact ⟨fun n z => ⟨fun k h => (by cases h), kA, f3, comp, f4⟩, kA, comp, f3, f4, f1, f5⟩
  · rw [List.getElem?_eq_none (by show 5 ≤ k; omega)] at hq
    cases hq
def fl1 : List Cond := flatC (Jvm.Cond.and given_1 narrow_1)
theorem sa_0 : Cond.arrayOf (.static "PartnerStack" "BYTES_MOVED" "[I") .int ∈ fl1 := by decide +kernel
theorem sl_0 : Cond.eq (.length (.static "PartnerStack" "BYTES_MOVED" "[I")) (.int 64) ∈ fl1 := by decide +kernel
theorem se_0 : ∀ j, j < 64 → Cond.eq (.elem (.static "PartnerStack" "BYTES_MOVED" "[I") (.int (Int32.ofNat j))) (.int (tb0.getD j 0)) ∈ fl1 := by decide +kernel
theorem sa_1 : Cond.arrayOf (.static "PartnerStack" "REGISTER_CODES" "[I") .int ∈ fl1 := by decide +kernel
theorem sl_1 : Cond.eq (.length (.static "PartnerStack" "REGISTER_CODES" "[I")) (.int 64) ∈ fl1 := by decide +kernel
theorem se_1 : ∀ j, j < 64 → Cond.eq (.elem (.static "PartnerStack" "REGISTER_CODES" "[I") (.int (Int32.ofNat j))) (.int (tb1.getD j 0)) ∈ fl1 := by decide +kernel
theorem sa_2 : Cond.arrayOf (.static "PartnerStack" "OPERAND_FORMATS" "[I") .int ∈ fl1 := by decide +kernel
theorem sl_2 : Cond.eq (.length (.static "PartnerStack" "OPERAND_FORMATS" "[I")) (.int 64) ∈ fl1 := by decide +kernel
theorem se_2 : ∀ j, j < 64 → Cond.eq (.elem (.static "PartnerStack" "OPERAND_FORMATS" "[I") (.int (Int32.ofNat j))) (.int (tb2.getD j 0)) ∈ fl1 := by decide +kernel
theorem sa_3 : Cond.arrayOf (.static "PartnerStack" "CONSTANT_POWERS" "[I") .int ∈ fl1 := by decide +kernel
theorem sl_3 : Cond.eq (.length (.static "PartnerStack" "CONSTANT_POWERS" "[I")) (.int 7) ∈ fl1 := by decide +kernel
theorem se_3 : ∀ j, j < 7 → Cond.eq (.elem (.static "PartnerStack" "CONSTANT_POWERS" "[I") (.int (Int32.ofNat j))) (.int (tb3.getD j 0)) ∈ fl1 := by decide +kernel
theorem sa_4 : Cond.arrayOf (.static "PartnerStack" "CONSTANT_FRACTIONS" "[J") .long ∈ fl1 := by decide +kernel
theorem sl_4 : Cond.eq (.length (.static "PartnerStack" "CONSTANT_FRACTIONS" "[J")) (.int 7) ∈ fl1 := by decide +kernel
theorem se_4 : ∀ j, j < 7 → Cond.eq (.elem (.static "PartnerStack" "CONSTANT_FRACTIONS" "[J") (.int (Int32.ofNat j))) (.long (tb4.getD j 0)) ∈ fl1 := by decide +kernel
theorem sa_5 : Cond.arrayOf (.static "PartnerStack" "EXAMINED" "[I") .int ∈ fl1 := by decide +kernel
theorem sl_5 : Cond.eq (.length (.static "PartnerStack" "EXAMINED" "[I")) (.int 6) ∈ fl1 := by decide +kernel
theorem se_5 : ∀ j, j < 6 → Cond.eq (.elem (.static "PartnerStack" "EXAMINED" "[I") (.int (Int32.ofNat j))) (.int (tb5.getD j 0)) ∈ fl1 := by decide +kernel
theorem sr_0 : Cond.isRef (.static Bundle.tN "UNASSIGNED_STACK" Bundle.steD) ∈ fl1 := by decide +kernel
theorem sr_1 : Cond.isRef (.static Bundle.tN "SUPPRESSED_SENTINEL" Bundle.listD) ∈ fl1 := by decide +kernel
theorem sr_2 : Cond.not (.castable X_ia X_io) ∈ fl1 := by decide +kernel
def entL : List Cond := [.laysStatic Bundle.tN "UNASSIGNED_STACK" Bundle.steD, .laysStatic Bundle.tN "SUPPRESSED_SENTINEL" Bundle.listD, .initialized Bundle.tN, .initialized "PartnerStack", .arrayOver (.object "PartnerStack$Real"), .laysStatic "PartnerStack" "BYTES_MOVED" "[I", .laysStatic "PartnerStack" "REGISTER_CODES" "[I", .laysStatic "PartnerStack" "OPERAND_FORMATS" "[I", .laysStatic "PartnerStack" "CONSTANT_POWERS" "[I", .laysStatic "PartnerStack" "CONSTANT_FRACTIONS" "[J", .laysStatic "PartnerStack" "EXAMINED" "[I", .castable X_io X_io, .castable X_ia X_ia] ++ (thS.map (fun q => Cond.stringRef q.1 q.2.1 q.2.2) ++ (nsT.map (fun q => Cond.methodLinkNest q.1 q.2.1 q.2.2 "PartnerStack") ++ thY.map (fun y => Cond.declares y)))
theorem entL_in : ∀ w ∈ entL, w ∈ lw_tbl := by decide +kernel
section N0
variable {s : State} {args : Array Value}
theorem ent_Z (hts : ∀ w ∈ lw_tbl, w.before args s = true) (hg : ∀ w ∈ fl1, w.before args s = true) {A : Nat → Prop} (hA : ∀ a : Nat, a < s.heap.size → ¬ A a) : ThZ A s s.heap := by
  exact ⟨ThL.of (hts _ (entL_in _ (List.mem_of_getElem? (i := 0) rfl))) (hg _ sr_0) hA, ThL.of (hts _ (entL_in _ (List.mem_of_getElem? (i := 1) rfl))) (hg _ sr_1) hA, va_Nw.of rfl (hts _ (entL_in _ (List.mem_of_getElem? (i := 11) rfl))), va_Nw.of rfl (hts _ (entL_in _ (List.mem_of_getElem? (i := 12) rfl))), fun y hy => va_Nw.of rfl (hts _ (entL_in _ (List.mem_append_right _ (List.mem_append_right _ (List.mem_append_right _ (List.mem_map.mpr ⟨y, hy, rfl⟩))))))⟩
theorem ent_S (hts : ∀ w ∈ lw_tbl, w.before args s = true) : ThS s := fun q hq => hts _ (entL_in _ (List.mem_append_right _ (List.mem_append_left _ (List.mem_map.mpr ⟨q, hq, rfl⟩))))
theorem ent_N (hg : ∀ w ∈ fl1, w.before args s = true) : ThN s := va_Nc.of (hg _ sr_2)
theorem ent_NS (hts : ∀ w ∈ lw_tbl, w.before args s = true) : NS s := ⟨fun q hq => va_Nw.of rfl (hts _ (entL_in _ (List.mem_append_right _ (List.mem_append_right _ (List.mem_append_left _ (List.mem_map.mpr ⟨q, hq, rfl⟩)))))), va_AO.of (hts _ (entL_in _ (List.mem_of_getElem? (i := 4) rfl)))⟩
theorem ent_T {n d : String} {ty : FieldType} {N : Nat} {f : Nat → Value} {A : Nat → Prop} (hts : ∀ w ∈ lw_tbl, w.before args s = true) (hg : ∀ w ∈ fl1, w.before args s = true) (hA : ∀ a : Nat, a < s.heap.size → ¬ A a) (hN : N < 2 ^ 31) (hl : Cond.laysStatic "PartnerStack" n d ∈ entL) (h1 : Cond.arrayOf (.static "PartnerStack" n d) ty ∈ fl1) (h2 : Cond.eq (.length (.static "PartnerStack" n d)) (.int (Int32.ofNat N)) ∈ fl1) (h3 : ∀ j : Nat, j < N → (Term.elem (.static "PartnerStack" n d) (.int (Int32.ofNat j))).eval args s none [] s = some (f j)) : ∃ t : Nat, va_Z R_PS n d (.ref t) A s s.heap ∧ va_T ty t N f A s s.heap := by
  obtain ⟨t, ht, hT⟩ := va_Tof (A := A) hN (hg _ h1) (va_eqt (hg _ h2)) h3 hA
  exact ⟨t, va_Zref (hts _ (entL_in _ hl)) (hts _ (entL_in _ (List.mem_of_getElem? (i := 3) rfl))) ht hA, hT⟩
theorem ent_Stt (hts : ∀ w ∈ lw_tbl, w.before args s = true) (hg : ∀ w ∈ fl1, w.before args s = true) : ∃ ta : Nat → Nat, ∀ (D : va_G) (cA : Nat → ClassId), Stt (adr s.heap.size ta, D, cA) s s.heap := by
  have hA : ∀ a : Nat, a < s.heap.size → ¬ (fun q => s.heap.size ≤ q) a := fun a h z => by
    have z : s.heap.size ≤ a := z
    omega
  obtain ⟨t0, z0, w0⟩ := ent_T (n := "BYTES_MOVED") (d := "[I") (ty := .int) (N := 64) (f := fun j => .int (tb0.getD j 0)) hts hg hA (by decide) (List.mem_of_getElem? (i := 5) rfl) sa_0 sl_0 (fun j hj => va_eqt (hg _ (se_0 j hj)))
  obtain ⟨t1, z1, w1⟩ := ent_T (n := "REGISTER_CODES") (d := "[I") (ty := .int) (N := 64) (f := fun j => .int (tb1.getD j 0)) hts hg hA (by decide) (List.mem_of_getElem? (i := 6) rfl) sa_1 sl_1 (fun j hj => va_eqt (hg _ (se_1 j hj)))
  obtain ⟨t2, z2, w2⟩ := ent_T (n := "OPERAND_FORMATS") (d := "[I") (ty := .int) (N := 64) (f := fun j => .int (tb2.getD j 0)) hts hg hA (by decide) (List.mem_of_getElem? (i := 7) rfl) sa_2 sl_2 (fun j hj => va_eqt (hg _ (se_2 j hj)))
  obtain ⟨t3, z3, w3⟩ := ent_T (n := "CONSTANT_POWERS") (d := "[I") (ty := .int) (N := 7) (f := fun j => .int (tb3.getD j 0)) hts hg hA (by decide) (List.mem_of_getElem? (i := 8) rfl) sa_3 sl_3 (fun j hj => va_eqt (hg _ (se_3 j hj)))
  obtain ⟨t4, z4, w4⟩ := ent_T (n := "CONSTANT_FRACTIONS") (d := "[J") (ty := .long) (N := 7) (f := fun j => .long (tb4.getD j 0)) hts hg hA (by decide) (List.mem_of_getElem? (i := 9) rfl) sa_4 sl_4 (fun j hj => va_eqtl (hg _ (se_4 j hj)))
  obtain ⟨t5, z5, w5⟩ := ent_T (n := "EXAMINED") (d := "[I") (ty := .int) (N := 6) (f := fun j => .int (tb5.getD j 0)) hts hg hA (by decide) (List.mem_of_getElem? (i := 10) rfl) sa_5 sl_5 (fun j hj => va_eqt (hg _ (se_5 j hj)))
  refine ⟨fun i => [t0, t1, t2, t3, t4, t5].getD (i - 50) 0, fun D cA => ?_⟩
  have hAB : ∀ q, AA (adr s.heap.size (fun i => [t0, t1, t2, t3, t4, t5].getD (i - 50) 0), D, cA) q → s.heap.size ≤ q := fun q h => adr_AA h
  exact ⟨⟨z0.narrow hAB, w0.narrow hAB⟩, ⟨z1.narrow hAB, w1.narrow hAB⟩, ⟨z2.narrow hAB, w2.narrow hAB⟩, ⟨z3.narrow hAB, w3.narrow hAB⟩, ⟨z4.narrow hAB, w4.narrow hAB⟩, z5.narrow hAB, w5.narrow hAB⟩
end N0
