/-! methods that throw: contracts of refused calls -/
def QF : Array Value → State → Outcome → State → Prop := fun _ _ _ _ => False
/-- E is thrown, and nothing that was there has changed -/
def XT (E : String) : String → State → State → Prop := fun E1 st t => E1 = E ∧ st.heap.size ≤ t.heap.size ∧ ∀ q : Nat, q < st.heap.size → t.heap[q]? = st.heap[q]?
def xnm : List String := ["java/lang/RuntimeException", "java/lang/Exception"]
def thw (E : String) (ik ic : Nat) : Prop := Bundle.fit E = true ∧ Cond.classLink "ShockTube" ik E ∈ wd ∧ Cond.initialized E ∈ wd ∧ (∀ w ∈ vx_atS "ShockTube" ic E xnm, w ∈ wd ∨ w ∈ othw) ∧ (∀ w ∈ Cond.classLink "ShockTube" ik E :: Cond.initialized E :: vx_atS "ShockTube" ic E xnm, vx_ot w = true) 
theorem xnm_fit : ∀ n ∈ xnm, Bundle.fit n = true := by decide +kernel
theorem xw {v a b : Int32} {A B : Int64} (hA : a.toInt64 = A) (hB : b.toInt64 = B) : x_in v a b ↔ w_in v.toInt64 A B := by
  subst hA hB
  unfold x_in w_in
  rw [Int32.le_iff_toInt_le, Int32.le_iff_toInt_le, Int64.le_iff_toInt_le, Int64.le_iff_toInt_le, Int32.toInt_toInt64, Int32.toInt_toInt64, Int32.toInt_toInt64]
theorem x_inN {a lo hi : Nat} (h1 : lo ≤ a) (h2 : a ≤ hi) (h : hi < 2 ^ 31) : x_in (nI a) (nI lo) (nI hi) := ⟨nI_le h1 (by omega), nI_le h2 (by omega)⟩
section TH
variable {p : Program} {l : Launch} {e : Env} {R : Room} {s : State} {m : MethodId} {args : Array Value} {below : List Frame} {meth : Method} {c : Code} {H : Heap} {locs : List Loc} {cells slots : Nat} {Q : State → Prop}
variable {cc : ByteArray} {pc : Nat} {ls : Array Slot} {rest : List Value} {D : va_G} {A : Nat → Prop} {a : Nat} {ct : Nat → ClassId} {ws : va_W} {H0 : Heap} {mc ms : Nat} {st : Nat → Nat}
theorem q_thr {E text : String} {ik is ic nL : Nat} {a0 : Cond} (hst : l.stackTraces = false) (T : thw E ik ic) (hx : p.tables.exec = Jvm.exec) (hb : c.code = cc) (hml : c.maxLocals = nL) (hsz : ls.size = nL) (hown : s.vm.findClass "ShockTube" = some m.cls) (hts : ∀ w ∈ a0 :: wd, w.before args s = true) (hE : EV D ct s) (hV : SV st (fun _ => False) s s.heap) (hS : va_S (fun _ => False) s.heap s.heap []) (htab : ∀ x ∈ c.exceptionTable.toList, False) (hlk : meth.locks = false) (hstr : ("ShockTube", is, text) ∈ strsw)
    (d0 : decode cc pc = .ok (.new ik, 3)) (d3 : decode cc (pc + 3) = .ok (.dup, 1)) (d4 : decode cc (pc + 4) = .ok (.ldc is, 2)) (d6 : decode cc (pc + 6) = .ok (.invokespecial ic, 3)) (d9 : decode cc (pc + 9) = .ok (.athrow, 1)) (hcat : (rest.map fun v => v.category).sum ≤ 8) (hR1 : 6 ≤ R.frames) (hR2 : 90 ≤ R.locals) (hR3 : 1 ≤ R.cells) (hR4 : 6 ≤ R.slots) :
    W p l e R s m args below meth c s.heap [] 0 0 (vx_MQ below QF (XT E) args s 1 6 (fun _ => False)) (F0 m pc ls rest) := by
  obtain ⟨t1, t2, t3, t4, t5⟩ := T
  obtain ⟨sa, hsa⟩ := hE.2.2.1 _ hstr
  refine vx_throwS hx hb hst (own := "ShockTube") (cls := E) (text := text) (names := xnm) (ik := ik) (is := is) (ic := ic) (mc := 1) (ms := 6) (sa := sa) (A := fun _ => False) hown t1 xnm_fit (hts _ (List.mem_cons_of_mem _ t2)) (hts _ (List.mem_cons_of_mem _ t3)) hsa (fun w hw => ?_) t5 hV.2.1 hV.2.2 hS (by rw [hml]; exact hsz) d0 d3 d4 d6 d9 (fun x hx => (htab x hx).elim) (by show 2 + 3 < R.frames; omega) (by show _ + (13 * (2 + 1) + 43) ≤ R.locals; omega) (by omega) (by omega) hlk (fun t _ h1 h2 => ⟨rfl, h1, h2⟩) (fun z hz => absurd hz List.not_mem_nil) (Nat.le_refl _) (Nat.le_refl _)
  rcases t4 w hw with h | h
  · exact hts _ (List.mem_cons_of_mem _ h)
  · exact va_Nw.use (A := args) (oth_tabs w h) (hE.2.2.2.2.2.2 w h)
theorem cTrun {E : String} {Qf : Array Value → State → Outcome → State → Prop} {av : Array Value} {stk : List Value} {free : Nat → Prop} (hQf : Qf = QF) (hr : vx_Run p l e R s m args below meth c H locs cells slots 1 6 (F0 m pc ls stk) rest (Qf av) (XT E) free) (hf : ∀ q, free q → False) (hS : va_S A s.heap H locs)
    (kx : ∀ (ce : Cell) (q9 : Addr) (H1 : Heap) (locs1 : List Loc), H.size ≤ H1.size → (∀ q : Nat, q < H.size → H1[q]? = H[q]?) → va_S A s.heap H1 locs1 → H1[q9]? = some ce → ce.vm = .none → s.vm.findClass E = some ce.cls → vx_W p l e R s m args below meth c H1 locs1 (cells + 1) (slots + 6) Q (F0 m pc ls rest) q9) : W p l e R s m args below meth c H locs cells slots Q (F0 m pc ls stk) := by
  subst hQf
  intro T hT X
  rcases hr T hT X with ⟨v, st₀, t, T', L, h0, X', hL, e1, e2, hq, st⟩ | ⟨q, st₀, t, T', L, E1, ce, h0, X', hL, e1, e2, ⟨rfl, k1, k2⟩, hce, hcv, hcl, st⟩
  · exact hq.elim
  · rw [h0, ← e1] at k1 k2
    obtain ⟨t2, a1, b1⟩ := kx ce q T'.heap (locs ++ L) k1 k2 ⟨Nat.le_trans hS.1 k1, fun z h1 h2 => (k2 z (Nat.lt_of_lt_of_le h1 hS.1)).trans (hS.2.1 z h1 h2), fun z hz => by
      rcases List.mem_append.mp hz with h | h
      · exact hS.2.2 z h
      · exact (hf _ (hL z h)).elim⟩ (by rw [e1]; exact hce) hcv hcl T' rfl X'
    exact ⟨t2, st.trans a1, b1⟩
/-- a call that throws: static -/
theorem cTS {y : MethodName} {bz : ByteArray} {nz ar nL idx f lo : Nat} {rz : Option FieldType} {a0 : Cond} {own E : String} {As : List Value} {W0 : va_W} {stk : List Value} (K : kS y bz nz rz ar) (hl : Cond.methodLink own idx y ∈ wd) (hx : p.tables.exec = Jvm.exec) (hb : c.code = cc) (hml : c.maxLocals = nL) (hown : s.vm.findClass own = some m.cls) (hts : ∀ w ∈ a0 :: wd, w.before args s = true) (hE : EV D ct s) (hV : SV st A s s.heap) (hS : va_S A s.heap H locs) (hM : vx_Met l y (wsy y bz nz rz) (rmW f 1 6 lo) (PcR D ct st As W0) QF (XT E) 1 6 (fun _ => False)) (hP : va_P D classes W0 H)
    (hn : As.length = ar) (hsz : ls.size = nL) (hst : stk = As.reverse ++ rest) (hcat : (rest.map fun v => v.category).sum ≤ 8) (hdg : decode cc pc = .ok (.invokestatic idx, 3)) (hR1 : f + 1 ≤ R.frames) (hR2 : 8 + (nz + 11) + lo ≤ R.locals) (hcs : cells + 1 ≤ R.cells ∧ slots + 6 ≤ R.slots)
    (kx : ∀ (ce : Cell) (q9 : Addr) (H1 : Heap) (locs1 : List Loc), H.size ≤ H1.size → (∀ q : Nat, q < H.size → H1[q]? = H[q]?) → va_S A s.heap H1 locs1 → H1[q9]? = some ce → ce.vm = .none → s.vm.findClass E = some ce.cls → vx_W p l e R s m args below meth c H1 locs1 (cells + 1) (slots + 6) Q (F0 m pc ls rest) q9) : W p l e R s m args below meth c H locs cells slots Q (F0 m pc ls stk) := by
  have hG : GoodIn (a0 :: wd) (wsy y bz nz rz) := gin K.1
  have cb : CallB R s args own idx y bz nz rz (wsy y bz nz rz) (rmW f 1 6 lo) 1 6 ar := callB_of ar hts hG rfl rfl rfl (hts _ (List.mem_cons_of_mem _ K.2.1)) (hts _ (List.mem_cons_of_mem _ hl)) K.2.2.2 ⟨hR1, hR2⟩
  exact cTrun rfl (vx_runS (As := As) (rest := rest) (g := F0 m pc ls stk) (own := own) (Ts := a0 :: wd) (nL := nL) ⟨hx, hb, hml, hown, hts⟩ hM ⟨cb, hts _ (List.mem_cons_of_mem _ K.2.2.1)⟩ ⟨blR, fun U hU hW => ⟨rfl, by rw [hU]; exact hP, hE.moved hW, hV.at hS (fun _ z => z.elim) hU hW.alike⟩⟩ rfl hn hsz hst (by simpa [JFrame.monitorRoom] using hcat) hdg hcs) (fun _ z => z) hS kx
/-- a call that throws: of an object -/
theorem cTV {y : MethodName} {bz : ByteArray} {nz ar nL idx f lo : Nat} {rz : Option FieldType} {a0 : Cond} {own E : String} {As : List Value} {W0 : va_W} {stk : List Value} {b : Nat} {ci q9 : Nat} {T9 : u_T} {N9 : Nat} {fs9 : List Value} {w9 : va_W} (K : kV y bz nz rz ar) (hl : Cond.methodLink own idx y ∈ wd) (hx : p.tables.exec = Jvm.exec) (hb : c.code = cc) (hml : c.maxLocals = nL) (hown : s.vm.findClass own = some m.cls) (hts : ∀ w ∈ a0 :: wd, w.before args s = true) (hE : EV D ct s) (hV : SV st A s s.heap) (hS : va_S A s.heap H locs) (hM : vx_Met l y (wsy y bz nz rz) (rmW f 1 6 lo) (PcR D ct st (.ref b :: As) W0) QF (XT E) 1 6 (fun _ => False)) (hP : va_P D classes W0 H) (hc : classes[ci]? = some (y.cls, T9, N9)) (hP9 : va_P D classes w9 H) (he : w9[q9]? = some (b, .inr (ci, fs9)))
    (hn : As.length = ar) (hsz : ls.size = nL) (hst : stk = As.reverse ++ .ref b :: rest) (hcat : (rest.map fun v => v.category).sum ≤ 8) (hdg : decode cc pc = .ok (.invokevirtual idx, 3)) (hR1 : f + 1 ≤ R.frames) (hR2 : 8 + (nz + 11) + lo ≤ R.locals) (hcs : cells + 1 ≤ R.cells ∧ slots + 6 ≤ R.slots)
    (kx : ∀ (ce : Cell) (q9 : Addr) (H1 : Heap) (locs1 : List Loc), H.size ≤ H1.size → (∀ q : Nat, q < H.size → H1[q]? = H[q]?) → va_S A s.heap H1 locs1 → H1[q9]? = some ce → ce.vm = .none → s.vm.findClass E = some ce.cls → vx_W p l e R s m args below meth c H1 locs1 (cells + 1) (slots + 6) Q (F0 m pc ls rest) q9) : W p l e R s m args below meth c H locs cells slots Q (F0 m pc ls stk) := by
  have hG : GoodIn (a0 :: wd) (wsy y bz nz rz) := gin K.1
  have cb : CallB R s args own idx y bz nz rz (wsy y bz nz rz) (rmW f 1 6 lo) 1 6 ar := callB_of ar hts hG rfl rfl rfl (hts _ (List.mem_cons_of_mem _ K.2.1)) (hts _ (List.mem_cons_of_mem _ hl)) K.2.2.2 ⟨hR1, hR2⟩
  have hrec : ∃ cellB : Cell, H[b]? = some cellB ∧ cellB.vm.isStatics = false ∧ s.vm.findClass y.cls = some cellB.cls := va_recv hE.K hP9 hc he
  exact cTrun rfl (vx_runV (As := As) (b := b) (C := y.cls) (rest := rest) (g := F0 m pc ls stk) (own := own) (Ts := a0 :: wd) (nL := nL) ⟨hx, hb, hml, hown, hts⟩ hM ⟨cb, hts _ (List.mem_cons_of_mem _ K.2.2.1.1), hts _ (List.mem_cons_of_mem _ K.2.2.1.2)⟩ ⟨blR, hrec, fun U hU hW => ⟨rfl, by rw [hU]; exact hP, hE.moved hW, hV.at hS (fun _ z => z.elim) hU hW.alike⟩⟩ rfl hn hsz hst (by simpa [JFrame.monitorRoom] using hcat) hdg hcs) (fun _ z => z) hS kx
/-- not caught in a refused call: it goes on -/
theorem q_out {E : String} {ce : Cell} {q9 : Addr} {H1 : Heap} {locs1 : List Loc} (htab : ∀ x ∈ c.exceptionTable.toList, False) (hlk : meth.locks = false) (z1 : s.heap.size ≤ H1.size) (z2 : ∀ q : Nat, q < s.heap.size → H1[q]? = s.heap[q]?) (hS1 : va_S (fun _ => False) s.heap H1 locs1) (c1 : H1[q9]? = some ce) (c2 : ce.vm = .none) (c3 : s.vm.findClass E = some ce.cls) :
    vx_W p l e R s m args below meth c H1 locs1 (0 + 1) (0 + 6) (vx_MQ below QF (XT E) args s 1 6 (fun _ => False)) (F0 m pc ls rest) q9 :=
  vx_out (fun x hx => (htab x hx).elim) hlk c1 c2 c3 (fun t ht _ => ⟨rfl, by rw [ht]; exact z1, fun q hq => by rw [ht]; exact z2 q hq⟩) (fun z hz => hS1.2.2 z hz) (Nat.le_refl _) (Nat.le_refl _)
theorem enterT {y : MethodName} {b : ByteArray} {n : Nat} {r : Option FieldType} {f lo : Nat} {E : String} {av : List Value} {W0 : va_W} (hy : plainName y.cls = true) (hN : (lg_sl av).length ≤ n)
    (body : ∀ (p : Program) (e : Env) (s : State) (m : MethodId) (args : Array Value) (below : List Frame) (meth : Method) (c : Code) (ls : Array Slot), p.tables.exec = Jvm.exec → c.code = b → meth.sig.returnType = r → c.maxLocals = n → s.vm.findClass y.cls = some m.cls → (∀ w ∈ Cond.code y b n r :: wd, w.before args s = true) → meth.locks = false → (∀ x ∈ c.exceptionTable.toList, False) →
      va_P D classes W0 s.heap → EV D ct s → SV st (fun _ => False) s s.heap → va_S (fun _ => False) s.heap s.heap [] → lv_has ls n (lv_args 0 av) → W p l e (rmW f 1 6 lo) s m args below meth c s.heap [] 0 0 (vx_MQ below QF (XT E) args s 1 6 (fun _ => False)) (F0 m 0 ls [])) :
    vx_Met l y (wsy y b n r) (rmW f 1 6 lo) (PcR D ct st av W0) QF (XT E) 1 6 (fun _ => False) := by
  refine vx_ofW (cc := b) (maxL := n) (ret := r) hy rfl ?_
  intro p e s m args below meth c s₁ B hml htab hv
  obtain ⟨rfl, hP, hE, hV⟩ := hv
  have hl := lv_entry av (n := n) hN
  have key := body p e s m av.toArray below meth c ((lg_sl av ++ List.replicate (n - (lg_sl av).length) Slot.unset).toArray) B.exec B.bytes B.returns hml (findClass_of_methodNamed B.named) (atoms_spec (ws := Cond.code y b n r :: wd) B.pre) B.notSynchronized htab hP hE hV va_S.rf hl
  rw [lg_entry_eq]
  exact key
/-! bodies with handlers that return -/
def wsyH (y : MethodName) (b : ByteArray) (n : Nat) (r : Option FieldType) (hh : List (Nat × Nat × Nat × Nat)) : List Cond := Cond.codeWith y b n r hh :: wd
theorem ginH {a0 : Cond} {y : MethodName} {b : ByteArray} {n : Nat} {r : Option FieldType} {hh : List (Nat × Nat × Nat × Nat)} (h : Cond.codeWith y b n r hh ∈ wd) : GoodIn (a0 :: wd) (wsyH y b n r hh) := by
  intro w hw
  rcases List.mem_cons.mp hw with rfl | h1
  · exact ⟨List.mem_cons_of_mem _ h, wd_good _ h⟩
  · exact ⟨List.mem_cons_of_mem _ h1, wd_good _ h1⟩
def kSH (y : MethodName) (b : ByteArray) (n : Nat) (r : Option FieldType) (hh : List (Nat × Nat × Nat × Nat)) (ar : Nat) : Prop := Cond.codeWith y b n r hh ∈ wd ∧ Cond.initialized y.cls ∈ wd ∧ Cond.static y ∈ wd ∧ kD y ar
theorem metH {y : MethodName} {ws ws' : List Cond} {rm : Room} {Pc : Array Value → State → Prop} {Qc : Array Value → State → Outcome → State → Prop} {free : Addr → Prop} {maxL : Nat} {ret : Option FieldType} {hh : List (Nat × Nat × Nat × Nat)} (hy : plainName y.cls = true) (hw : ws = Cond.codeWith y cc maxL ret hh :: ws')
    (body : ∀ p e s m args below meth c s₁, BodyLoose p l y (headSpec ws rm) cc maxL ret e s m args below meth c s₁ → c.maxLocals = maxL → Pc args s → W p l e (headSpec ws rm).room s m args below meth c s.heap [] 0 0 (MQ below Qc args s mc ms free) (entryFrame m args maxL)) : Met l y ws rm Pc Qc mc ms free := by
  refine MetFree.of_bodyS (code := cc) (maxLocals := maxL) (ret := ret) hy ?_ ?_
  · intro args s m h hn
    obtain ⟨m9, meth, c, hn9, h1, h2, h3, h4, -, h5, h6, -⟩ := Cond.codeWith_spec (atoms_spec (ws := ws) h _ (by rw [hw]; exact List.mem_cons_self))
    cases hn.symm.trans hn9
    exact ⟨meth, c, h1, h2, h3, h4, h5, h6⟩
  · intro p e s m args below meth c s₁ B hml hP _
    have hh0 : s₁.heap = s.heap := by rw [B.state]; rfl
    obtain ⟨t, a1, o, b1, b2, b3⟩ := body p e s m args below meth c s₁ B hml hP s₁ hh0 (Stand.of_body B)
    exact ⟨t, o, a1, b1, b2, ⟨b3.1, b3.2⟩⟩
theorem enterL {y : MethodName} {b : ByteArray} {n : Nat} {r : Option FieldType} {hh : List (Nat × Nat × Nat × Nat)} {f lo : Nat} {av : List Value} {W0 : va_W} {sz : Nat} {post : Option Value → va_W → Prop} (hy : plainName y.cls = true) (hN : (lg_sl av).length ≤ n)
    (body : ∀ (p : Program) (e : Env) (s : State) (m : MethodId) (args : Array Value) (below : List Frame) (meth : Method) (c : Code) (ls : Array Slot) (A : Nat → Prop), p.tables.exec = Jvm.exec → c.code = b → meth.sig.returnType = r → c.maxLocals = n → s.vm.findClass y.cls = some m.cls → (∀ w ∈ Cond.codeWith y b n r hh :: wd, w.before args s = true) → meth.locks = false → c.exceptionTable.toList = tableOf hh →
      s.heap.size = sz → va_A W0 sz = A → va_P D classes W0 s.heap → va_D A W0 → (∀ q : Nat, s.heap.size ≤ q → A q) → EV D ct s → SV st A s s.heap → va_S A s.heap s.heap [] → lv_has ls n (lv_args 0 av) → W p l e (rmW f mc ms lo) s m args below meth c s.heap [] 0 0 (MQ below (QcW D W0 sz post) args s mc ms A) (F0 m 0 ls [])) :
    Met l y (wsyH y b n r hh) (rmW f mc ms lo) (PcW D ct st av W0 sz) (QcW D W0 sz post) mc ms (va_A W0 sz) := by
  refine metH (cc := b) (maxL := n) (ret := r) (hh := hh) hy rfl ?_
  intro p e s m args below meth c s₁ B hml hv
  obtain ⟨rfl, hsz, hP, hD0, hE, hV⟩ := hv
  have hl := lv_entry av (n := n) hN
  have hts := atoms_spec (ws := Cond.codeWith y b n r hh :: wd) B.pre
  have key := body p e s m av.toArray below meth c ((lg_sl av ++ List.replicate (n - (lg_sl av).length) Slot.unset).toArray) (va_A W0 sz) B.exec B.bytes B.returns hml (findClass_of_methodNamed B.named) hts B.notSynchronized (vx_table (x := y) B (hts _ List.mem_cons_self)) hsz rfl hP (hD0.self (sz := sz)) (fun q h => Or.inr (by rw [← hsz]; exact h)) hE hV va_S.rf hl
  rw [lg_entry_eq]
  exact key
/-- caught by the k9-th row of the law's table -/
theorem q_catch {E own : String} {ce : Cell} {q9 : Addr} {hh : List (Nat × Nat × Nat × Nat)} {a0 : Cond} {H1 : Heap} {locs1 : List Loc} (hown : s.vm.findClass own = some m.cls) (hts : ∀ w ∈ a0 :: wd, w.before args s = true) (hE : EV D ct s) (htab : c.exceptionTable.toList = tableOf hh) (pre : List ExceptionTableEntry) (x : ExceptionTableEntry) (suf : List ExceptionTableEntry) (hsp : tableOf hh = pre ++ x :: suf)
    (hpre : ∀ z ∈ pre, z.catchType ≠ 0 ∧ ∃ nm : String, Cond.classLink own z.catchType nm ∈ wd ∧ (E, nm) ∈ ncw) (hx9 : covers x pc = true) (h0 : x.catchType ≠ 0) (hlink : Cond.classLink own x.catchType E ∈ wd) (hcs : Cond.castable E E ∈ othw) (c1 : H1[q9]? = some ce) (c2 : ce.vm = .none) (c3 : s.vm.findClass E = some ce.cls)
    (kk : W p l e R s m args below meth c H1 locs1 cells slots Q (F0 m x.handlerPc ls [.ref q9])) : vx_W p l e R s m args below meth c H1 locs1 cells slots Q (F0 m pc ls rest) q9 :=
  vx_catch hown pre x suf (htab.trans hsp) (fun z hz => by
    obtain ⟨h1, nm, h2, h3⟩ := hpre z hz
    exact Or.inr ⟨h1, nm, hts _ (List.mem_cons_of_mem _ h2), hE.2.2.2.2.2.1 _ h3⟩) hx9 h0 (hts _ (List.mem_cons_of_mem _ hlink)) (va_Nw.use (A := args) rfl (hE.2.2.2.2.2.2 _ hcs)) c1 c2 c3 kk
end TH

theorem thw_IA : thw xIA 31 35 := ⟨by decide +kernel, by decide +kernel, by decide +kernel, by decide +kernel, by decide +kernel⟩
theorem thw_IS : thw xIS 87 91 := ⟨by decide +kernel, by decide +kernel, by decide +kernel, by decide +kernel, by decide +kernel⟩
theorem thw_IO : thw xIO 183 187 := ⟨by decide +kernel, by decide +kernel, by decide +kernel, by decide +kernel, by decide +kernel⟩
