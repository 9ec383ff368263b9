/-! the law's start: what the Statement gives of it -/
def R_law : String := "ShockTubeLaw"
def lw_P (b : Addr) (xs : List Int32) (args : Array Value) (s : State) : Prop := args = #[.ref b] ∧ s.IntsAt b xs ∧ xs.length ≤ 260 ∧ (Jvm.Cond.and given_1 narrow_1).before args s = true
def lw_Q (_ : Array Value) (s : State) (o : Outcome) (t : State) : Prop := o = .returned (some (.int 1)) ∧ Framed s o t [] 600074 7301550
def lw_Z (below : List Frame) (a : Array Value) (s : State) : State → Prop := fun t => ∃ o, t.status = .running ∧ Ended t below o ∧ lw_Q a s o t
/-- the law's own end, with 1 on the stack, nothing written that was there before, its room as the claim has it -/
theorem lw_ret {p : Program} {l : Launch} {e : Env} {s : State} {m : MethodId} {below : List Frame} {meth : Method} {c : Code} {b : Nat} (hx : p.tables.exec = Jvm.exec) (hb : c.code = code) (hr : meth.sig.returnType = ret) (hlocks : meth.locks = false) {pc : Nat} {H : Heap} {ls : Array Slot} (hdg : decode code pc = .ok (.ireturn, 1)) : W p l e room_1 s m #[Value.ref b] below meth c H [] 600074 7301550 (lw_Z below #[Value.ref b] s) (F0 m pc ls [.int 1]) := by
  intro T hT X
  obtain ⟨fs, hret, hrun, hended, hW, hframe⟩ := X.leave (v := some (.int 1)) (hlocks := hlocks) (fun h => by rw [hr] at h; cases h)
  have hmeth' : T.vm.method? m = some meth := X.method'
  refine ⟨T.setFrames fs, ?_, .returned (some (.int 1)), hrun, hended, rfl, ⟨_, rfl⟩, hW, hframe⟩
  jvm_step X.here [X.here.top, hx, hb, hdg, hmeth', hr, ret, narrow_b1]
  (try refine ⟨rfl, ?_⟩); (try refine ⟨rfl, ?_⟩)
  first | (intro acts; rw [hret _ acts rfl rfl rfl]) | rw [hret _ _ rfl rfl rfl]
  exact Steps.refl _
/-- what holds at the law's entry: the machine, the code, the tables' words (any of lw_tbl by 'hts w (by decide +kernel)'), the script of L ints xs at the cell b, what the Statement gives of the start (any of its parts by flat_of_before) -/
def lw_At (p : Program) (s : State) (m : MethodId) (meth : Method) (c : Code) (b L : Nat) (xs : Nat → Int32) : Prop :=
  p.tables.exec = Jvm.exec ∧ c.code = code ∧ meth.sig.returnType = ret ∧ c.maxLocals = 13 ∧ s.vm.findClass R_law = some m.cls ∧ (∀ w ∈ lw_tbl, w.before #[Value.ref b] s = true) ∧ va_X b L xs s s.heap ∧ b < s.heap.size ∧ meth.locks = false ∧ (Jvm.Cond.and given_1 narrow_1).before #[Value.ref b] s = true
theorem tb_in {i : Nat} {w : Cond} (h : tables_1[i]? = some w) : w ∈ lw_tbl := List.mem_append_right _ (List.mem_of_getElem? h)
def gv : List Cond := flatC (Jvm.Cond.and given_1 narrow_1)
theorem av_over {args : Array Value} {s : State} {o : Option Outcome} {idx : List Nat} {s1 : State} {t : FieldType} (h : (Cond.arrayOver (.array t)).holds args s1 o s idx = true) : ∃ (p : ClassId) (c : ClassId) (k : Class), s.vm.findClass (FieldType.array t).toString = some p ∧ s.vm.classes[c]? = some k ∧ k.kind = .array p (.array t) ∧ s.vm.findClass ("[" ++ (FieldType.array t).toString) = some c := by
  simp only [Cond.holds, Cond.value, beq_iff_eq] at h
  obtain ⟨p, hp, h⟩ := Option.bind_eq_some_iff.mp h
  obtain ⟨c, hi, h⟩ := Option.bind_eq_some_iff.mp h
  obtain ⟨k, hk, h⟩ := Option.map_eq_some_iff.mp h
  obtain ⟨hlt, hq, -⟩ := Array.findIdx?_eq_some_iff_getElem.mp hi
  rw [(Array.getElem?_eq_some_iff.mp hk).2] at hq
  cases hkind : k.kind with
  | array p2 ty =>
    rw [hkind] at h hq
    simp at h hq
    exact ⟨p, c, k, hp, hk, by rw [hkind, hq, h.1], h.2⟩
  | _ => rw [hkind] at h; simp at h
section ST
variable {s : State} {b : Nat}
theorem kn_start (hwd : ∀ w ∈ wd, w.before #[Value.ref b] s = true) : ∃ (dC : Nat → ClassId) (dI : Nat → Nat → Nat), ∀ (k : Nat) (q : vw_C), classes[k]? = some q → u_Kn s q.1 q.2.1 q.2.2 (dC k) (dI k) := by
  have hall : ∀ q ∈ classes, ∃ (cC : ClassId) (iS : Nat → Nat), u_Kn s q.1 q.2.1 q.2.2 cC iS :=
    List.forall_mem_cons.mpr ⟨u_known hwd i_X (hwd _ x_18), List.forall_mem_cons.mpr ⟨u_known hwd i_Laws (hwd _ x_38), List.forall_mem_cons.mpr ⟨u_known hwd i_Pipe (hwd _ x_170), List.forall_mem_cons.mpr ⟨u_known hwd i_Row (hwd _ x_144), List.forall_mem_cons.mpr ⟨u_known hwd i_State (hwd _ x_26), List.forall_mem_cons.mpr ⟨u_known hwd i_Step (hwd _ x_238), List.forall_mem_cons.mpr ⟨u_known hwd i_Story (hwd _ x_122), List.forall_mem_cons.mpr ⟨u_known hwd i_Tube (hwd _ x_32), fun _ h => absurd h List.not_mem_nil⟩⟩⟩⟩⟩⟩⟩⟩
  have hk : ∀ k : Nat, ∃ (cC : ClassId) (iS : Nat → Nat), ∀ q : vw_C, classes[k]? = some q → u_Kn s q.1 q.2.1 q.2.2 cC iS := by
    intro k
    by_cases h : ∃ q, classes[k]? = some q
    · obtain ⟨q, h⟩ := h
      obtain ⟨cC, iS, h1⟩ := hall q (List.mem_of_getElem? h)
      exact ⟨cC, iS, fun q2 h2 => by cases h.symm.trans h2; exact h1⟩
    · exact ⟨(0 : Nat), fun _ => 0, fun q2 h2 => absurd ⟨q2, h2⟩ h⟩
  exact ⟨fun k => Classical.choose (hk k), fun k => Classical.choose (Classical.choose_spec (hk k)), fun k q h => Classical.choose_spec (Classical.choose_spec (hk k)) q h⟩
theorem ty_start (hts : ∀ w ∈ lw_tbl, w.before #[Value.ref b] s = true) : ∃ ct : Nat → ClassId, (∀ (k : Nat) (q : ClassId × FieldType), (tysA ct)[k]? = some q → ArrOfT s q.1 q.2 ∧ va_RA s q.1 q.2) ∧ AOF ct s := by
  obtain ⟨c0, k0, p0, f0, g0, h0⟩ := Cond.arrayClass_spec (hts (.arrayClass .int) (tb_in (i := 120) (by decide +kernel)))
  obtain ⟨c1, k1, p1, f1, g1, h1⟩ := Cond.arrayClass_spec (hts (.arrayClass .long) (tb_in (i := 119) (by decide +kernel)))
  obtain ⟨c2, k2, p2, f2, g2, h2⟩ := Cond.arrayClass_spec (hts (.arrayClass .int) (tb_in (i := 120) (by decide +kernel)))
  obtain ⟨p3, c3, k3, e3, i3, g3, h3, f3⟩ := Cond.arrayOver_spec (hts (.arrayOver (.object "ShockTube$State")) (tb_in (i := 269) (by decide +kernel)))
  obtain ⟨p4, c4, k4, e4, g4, h4, f4⟩ := av_over (hts (.arrayOver (.array .long)) (tb_in (i := 61) (by decide +kernel)))
  have e9 : p4 = c1 := Option.some.inj (e4.symm.trans f1)
  subst e9
  refine ⟨fun k => match k with | 0 => c0 | 1 => p4 | 2 => c2 | 3 => c3 | _ => c4, fun k q hq => ?_, k4, g4, h4⟩
  have hm := List.mem_of_getElem? hq
  simp only [tysA, List.mem_cons, List.not_mem_nil, or_false] at hm
  rcases hm with rfl | rfl | rfl | rfl | rfl
  · exact ⟨fun N z => ⟨(fun k h => by cases h), k0, g0, p0, h0⟩, f0⟩
  · exact ⟨fun N z => ⟨(fun k h => by cases h), k1, g1, p1, h1⟩, f1⟩
  · exact ⟨fun N z => ⟨(fun k h => by cases h), k2, g2, p2, h2⟩, f2⟩
  · exact ⟨fun N z => ⟨(fun k h => by cases h), k3, g3, p3, h3⟩, k3, p3, g3, h3, e3, f3⟩
  · exact ⟨fun N z => ⟨(fun k h => by cases h), k4, g4, p4, h4⟩, f4⟩
theorem str_one {own tx : String} {k : Nat} (hts : ∀ w ∈ lw_tbl, w.before #[Value.ref b] s = true) (hgv : ∀ w ∈ gv, w.before #[Value.ref b] s = true) (h1 : Cond.stringRef own k tx ∈ lw_tbl) (h2 : Cond.exactly (.string own k) "java/lang/String" ∈ gv) : ∃ a : Nat, vk_R own k tx a s := by
  obtain ⟨a, c, cell, k9, he, -⟩ := Cond.exactly_spec (hgv _ h2)
  exact ⟨a, vk_R.of (hts _ h1) he⟩
theorem str_start (hts : ∀ w ∈ lw_tbl, w.before #[Value.ref b] s = true) (hgv : ∀ w ∈ gv, w.before #[Value.ref b] s = true) : ∀ q ∈ strsw, ∃ a : Nat, vk_R q.1 q.2.1 q.2.2 a s :=
  List.forall_mem_cons.mpr ⟨str_one hts hgv (tb_in (i := 328) (by decide +kernel)) (List.mem_of_getElem? (i := 30) (by decide +kernel)), List.forall_mem_cons.mpr ⟨str_one hts hgv (tb_in (i := 388) (by decide +kernel)) (List.mem_of_getElem? (i := 91) (by decide +kernel)), List.forall_mem_cons.mpr ⟨str_one hts hgv (tb_in (i := 410) (by decide +kernel)) (List.mem_of_getElem? (i := 127) (by decide +kernel)), List.forall_mem_cons.mpr ⟨str_one hts hgv (tb_in (i := 421) (by decide +kernel)) (List.mem_of_getElem? (i := 154) (by decide +kernel)), List.forall_mem_cons.mpr ⟨str_one hts hgv (tb_in (i := 438) (by decide +kernel)) (List.mem_of_getElem? (i := 196) (by decide +kernel)), List.forall_mem_cons.mpr ⟨str_one hts hgv (tb_in (i := 451) (by decide +kernel)) (List.mem_of_getElem? (i := 252) (by decide +kernel)), List.forall_mem_cons.mpr ⟨str_one hts hgv (tb_in (i := 457) (by decide +kernel)) (List.mem_of_getElem? (i := 301) (by decide +kernel)), List.forall_mem_cons.mpr ⟨str_one hts hgv (tb_in (i := 458) (by decide +kernel)) (List.mem_of_getElem? (i := 347) (by decide +kernel)), List.forall_mem_cons.mpr ⟨str_one hts hgv (tb_in (i := 591) (by decide +kernel)) (List.mem_of_getElem? (i := 387) (by decide +kernel)), List.forall_mem_cons.mpr ⟨str_one hts hgv (tb_in (i := 636) (by decide +kernel)) (List.mem_of_getElem? (i := 432) (by decide +kernel)), List.forall_mem_cons.mpr ⟨str_one hts hgv (tb_in (i := 637) (by decide +kernel)) (List.mem_of_getElem? (i := 481) (by decide +kernel)), List.forall_mem_cons.mpr ⟨str_one hts hgv (tb_in (i := 657) (by decide +kernel)) (List.mem_of_getElem? (i := 521) (by decide +kernel)), List.forall_mem_cons.mpr ⟨str_one hts hgv (tb_in (i := 720) (by decide +kernel)) (List.mem_of_getElem? (i := 554) (by decide +kernel)), List.forall_mem_cons.mpr ⟨str_one hts hgv (tb_in (i := 729) (by decide +kernel)) (List.mem_of_getElem? (i := 605) (by decide +kernel)), List.forall_mem_cons.mpr ⟨str_one hts hgv (tb_in (i := 734) (by decide +kernel)) (List.mem_of_getElem? (i := 649) (by decide +kernel)), List.forall_mem_cons.mpr ⟨str_one hts hgv (tb_in (i := 792) (by decide +kernel)) (List.mem_of_getElem? (i := 683) (by decide +kernel)), List.forall_mem_cons.mpr ⟨str_one hts hgv (tb_in (i := 804) (by decide +kernel)) (List.mem_of_getElem? (i := 723) (by decide +kernel)), List.forall_mem_cons.mpr ⟨str_one hts hgv (tb_in (i := 828) (by decide +kernel)) (List.mem_of_getElem? (i := 759) (by decide +kernel)), fun _ h => absurd h List.not_mem_nil⟩⟩⟩⟩⟩⟩⟩⟩⟩⟩⟩⟩⟩⟩⟩⟩⟩⟩
theorem nest_in : ∀ w ∈ nestw, w ∈ lw_tbl :=
  List.forall_mem_cons.mpr ⟨(tb_in (i := 27) (by decide +kernel)), List.forall_mem_cons.mpr ⟨(tb_in (i := 39) (by decide +kernel)), List.forall_mem_cons.mpr ⟨(tb_in (i := 123) (by decide +kernel)), List.forall_mem_cons.mpr ⟨(tb_in (i := 145) (by decide +kernel)), List.forall_mem_cons.mpr ⟨(tb_in (i := 171) (by decide +kernel)), List.forall_mem_cons.mpr ⟨(tb_in (i := 239) (by decide +kernel)), List.forall_mem_cons.mpr ⟨(tb_in (i := 372) (by decide +kernel)), List.forall_mem_cons.mpr ⟨(tb_in (i := 381) (by decide +kernel)), List.forall_mem_cons.mpr ⟨(tb_in (i := 476) (by decide +kernel)), List.forall_mem_cons.mpr ⟨(tb_in (i := 478) (by decide +kernel)), List.forall_mem_cons.mpr ⟨(tb_in (i := 488) (by decide +kernel)), List.forall_mem_cons.mpr ⟨(tb_in (i := 491) (by decide +kernel)), List.forall_mem_cons.mpr ⟨(tb_in (i := 579) (by decide +kernel)), List.forall_mem_cons.mpr ⟨(tb_in (i := 786) (by decide +kernel)), List.forall_mem_cons.mpr ⟨(tb_in (i := 819) (by decide +kernel)), fun _ h => absurd h List.not_mem_nil⟩⟩⟩⟩⟩⟩⟩⟩⟩⟩⟩⟩⟩⟩⟩
theorem nest_tabs : ∀ w ∈ nestw, w.onTables = true := by decide +kernel
theorem oth_in : ∀ w ∈ othw, w ∈ lw_tbl :=
   fun _ h => absurd h List.not_mem_nil
theorem nc_start (hgv : ∀ w ∈ gv, w.before #[Value.ref b] s = true) : ∀ q ∈ ncw, va_Nc q.1 q.2 s :=
   fun _ h => absurd h List.not_mem_nil
theorem sv_one {nm : String} {A : Nat → Prop} (tb : Nat → Int32) (hts : ∀ w ∈ lw_tbl, w.before #[Value.ref b] s = true) (hgv : ∀ w ∈ gv, w.before #[Value.ref b] s = true) (hA : ∀ a : Nat, a < s.heap.size → ¬ A a) (h0 : Cond.laysStatic "ShockTube" nm "[I" ∈ lw_tbl) (h1 : Cond.arrayOf (.static "ShockTube" nm "[I") .int ∈ gv) (h2 : Cond.eq (.length (.static "ShockTube" nm "[I")) (.int 3) ∈ gv) (h3 : Cond.eq (.elem (.static "ShockTube" nm "[I") (.int 0)) (.int (tb 0)) ∈ gv) (h4 : Cond.eq (.elem (.static "ShockTube" nm "[I") (.int 1)) (.int (tb 1)) ∈ gv) (h5 : Cond.eq (.elem (.static "ShockTube" nm "[I") (.int 2)) (.int (tb 2)) ∈ gv) : ∃ t : Nat, va_Z "ShockTube" nm "[I" (.ref t) A s s.heap ∧ va_T .int t 3 (fun j => .int (tb j)) A s s.heap := by
  have hel : ∀ j : Nat, j < 3 → (Term.elem (.static "ShockTube" nm "[I") (.int (Int32.ofNat j))).eval #[Value.ref b] s none [] s = some (.int (tb j)) := by
    intro j hj
    rcases (show j = 0 ∨ j = 1 ∨ j = 2 by omega) with rfl | rfl | rfl
    · exact va_eqt (hgv _ h3)
    · exact va_eqt (hgv _ h4)
    · exact va_eqt (hgv _ h5)
  obtain ⟨t, ht, hT⟩ := va_Tof (N := 3) (f := fun j => .int (tb j)) (by decide) (hgv _ h1) (va_eqt (hgv _ h2)) hel hA
  exact ⟨t, va_Zof (hts _ h0) (hts _ (tb_in (i := 1) (by decide +kernel))) ht hA, hT⟩
theorem sv_start {A : Nat → Prop} (hts : ∀ w ∈ lw_tbl, w.before #[Value.ref b] s = true) (hgv : ∀ w ∈ gv, w.before #[Value.ref b] s = true) (hA : ∀ a : Nat, a < s.heap.size → ¬ A a) : ∃ st : Nat → Nat, SV st A s s.heap := by
  obtain ⟨t0, z0, y0⟩ := sv_one (sv_tb 0) hts hgv hA (nm := "PRESSURE_TIMES") (tb_in (i := 477) (by decide +kernel)) (List.mem_of_getElem? (i := 7) (by decide +kernel)) (List.mem_of_getElem? (i := 8) (by decide +kernel)) (List.mem_of_getElem? (i := 9) (by decide +kernel)) (List.mem_of_getElem? (i := 10) (by decide +kernel)) (List.mem_of_getElem? (i := 11) (by decide +kernel))
  obtain ⟨t1, z1, y1⟩ := sv_one (sv_tb 1) hts hgv hA (nm := "PRESSURE_PARTS") (tb_in (i := 479) (by decide +kernel)) (List.mem_of_getElem? (i := 13) (by decide +kernel)) (List.mem_of_getElem? (i := 14) (by decide +kernel)) (List.mem_of_getElem? (i := 15) (by decide +kernel)) (List.mem_of_getElem? (i := 16) (by decide +kernel)) (List.mem_of_getElem? (i := 17) (by decide +kernel))
  obtain ⟨t2, z2, y2⟩ := sv_one (sv_tb 2) hts hgv hA (nm := "SOUND_TIMES") (tb_in (i := 489) (by decide +kernel)) (List.mem_of_getElem? (i := 19) (by decide +kernel)) (List.mem_of_getElem? (i := 20) (by decide +kernel)) (List.mem_of_getElem? (i := 21) (by decide +kernel)) (List.mem_of_getElem? (i := 22) (by decide +kernel)) (List.mem_of_getElem? (i := 23) (by decide +kernel))
  obtain ⟨t3, z3, y3⟩ := sv_one (sv_tb 3) hts hgv hA (nm := "SOUND_PARTS") (tb_in (i := 492) (by decide +kernel)) (List.mem_of_getElem? (i := 25) (by decide +kernel)) (List.mem_of_getElem? (i := 26) (by decide +kernel)) (List.mem_of_getElem? (i := 27) (by decide +kernel)) (List.mem_of_getElem? (i := 28) (by decide +kernel)) (List.mem_of_getElem? (i := 29) (by decide +kernel))
  refine ⟨fun i => match i with | 0 => t0 | 1 => t1 | 2 => t2 | _ => t3, fun i hi => ?_, ?_, ?_⟩
  · rcases (show i = 0 ∨ i = 1 ∨ i = 2 ∨ i = 3 by omega) with rfl | rfl | rfl | rfl
    · exact ⟨z0, y0⟩
    · exact ⟨z1, y1⟩
    · exact ⟨z2, y2⟩
    · exact ⟨z3, y3⟩
  · exact vx_Zqof (hts _ (tb_in (i := 314) (by decide +kernel))) (hts _ (tb_in (i := 9) (by decide +kernel))) (hgv _ (List.mem_of_getElem? (i := 4) (by decide +kernel))) hA
  · exact vx_Zqof (hts _ (tb_in (i := 316) (by decide +kernel))) (hts _ (tb_in (i := 9) (by decide +kernel))) (hgv _ (List.mem_of_getElem? (i := 5) (by decide +kernel))) hA
theorem ev_start (hts : ∀ w ∈ lw_tbl, w.before #[Value.ref b] s = true) (hgv : ∀ w ∈ gv, w.before #[Value.ref b] s = true) : ∃ (D : va_G) (ct : Nat → ClassId), EV D ct s := by
  obtain ⟨dC, dI, hk⟩ := kn_start (s := s) (b := b) (fun w hw => hts w (List.mem_filter.mp hw).1)
  obtain ⟨ct, ht, ha⟩ := ty_start hts
  exact ⟨(dC, dI), ct, ⟨hk, ht⟩, fun w hw => va_Nw.of (nest_tabs w hw) (hts w (nest_in w hw)), str_start hts hgv, va_AO.of (hts (.arrayOver (.object "ShockTube$State")) (tb_in (i := 269) (by decide +kernel))), ha, nc_start hgv, fun w hw => va_Nw.of (oth_tabs w hw) (hts w (oth_in w hw))⟩
end ST
