/-! words of the tables that stay, and what every method of the system needs of them; contracts that read (PcR), contracts that write (PcW, QcW) -/
theorem gdw_good {w : Cond} (h : gdw w = true) : (w.onTables && w.keeps) = true ∨ ∃ ty, w = .arrayClass ty := by
  unfold gdw at h
  rcases (Bool.or_eq_true _ _).mp h with h | h
  · exact Or.inl h
  · cases w <;> first | exact Or.inr ⟨_, rfl⟩ | (exact absurd h (by decide)) | cases h
theorem wd_good : ∀ w ∈ wd, (w.onTables && w.keeps) = true ∨ ∃ ty, w = .arrayClass ty := fun w hw => gdw_good (List.mem_filter.mp hw).2
def wsy (y : MethodName) (b : ByteArray) (n : Nat) (r : Option FieldType) : List Cond := Cond.code y b n r :: wd
theorem gin {a : Cond} {y : MethodName} {b : ByteArray} {n : Nat} {r : Option FieldType} (h : Cond.code y b n r ∈ wd) : GoodIn (a :: wd) (wsy y b n r) := by
  intro w hw
  rcases List.mem_cons.mp hw with rfl | h1
  · exact ⟨List.mem_cons_of_mem _ h, Or.inl rfl⟩
  · exact ⟨List.mem_cons_of_mem _ h1, wd_good _ h1⟩
def kD (y : MethodName) (n : Nat) : Prop := y.cls ≠ "java/lang/invoke/MethodHandle" ∧ y.cls ≠ "java/lang/invoke/VarHandle" ∧ (parseMethodDescriptor y.desc).map (fun d => d.parameters.length) = some n
def kS (y : MethodName) (b : ByteArray) (n : Nat) (r : Option FieldType) (ar : Nat) : Prop := Cond.code y b n r ∈ wd ∧ Cond.initialized y.cls ∈ wd ∧ Cond.static y ∈ wd ∧ kD y ar
def kV (y : MethodName) (b : ByteArray) (n : Nat) (r : Option FieldType) (ar : Nat) : Prop := Cond.code y b n r ∈ wd ∧ Cond.initialized y.cls ∈ wd ∧ (Cond.instanceMethod y ∈ wd ∧ Cond.selects y.cls y y ∈ wd) ∧ kD y ar
def kI (y : MethodName) (b : ByteArray) (n : Nat) (ar : Nat) : Prop := Cond.code y b n none ∈ wd ∧ Cond.initialized y.cls ∈ wd ∧ (Cond.instanceMethod y ∈ wd ∧ y.name = "<init>") ∧ kD y ar
/-- array classes: int, long, boolean, State, long[] -/
def tysA (ct : Nat → ClassId) : List (ClassId × FieldType) := [(ct 0, .int), (ct 1, .long), (ct 2, .int), (ct 3, .object "ShockTube$State"), (ct 4, .array .long)]
/-- the class of long[][]: its component is that of long[] -/
def AOF (ct : Nat → ClassId) (U : State) : Prop := ∃ kA : Class, U.vm.classes[ct 4]? = some kA ∧ kA.kind = .array (ct 1) (.array .long)
theorem AOF.moved {ct : Nat → ClassId} {u U : State} (hvm : u.vm.Alike U.vm) (h : AOF ct u) : AOF ct U := by
  obtain ⟨kA, h1, h2⟩ := h
  obtain ⟨k', hk', he⟩ := hvm.2.2 _ _ h1
  exact ⟨k', hk', by rw [he]; exact h2⟩
def xIA : String := "java/lang/IllegalArgumentException"
def xIS : String := "java/lang/IllegalStateException"
def xIO : String := "java/lang/IndexOutOfBoundsException"
def ncw : List (String × String) := []
/-- words of throws that are no good words by themselves -/
def othw : List Cond := []
def isOth (w : Cond) : Bool := match w with | .castable .. => true | .declares .. => true | _ => false
theorem oth_all : ∀ w ∈ othw, isOth w = true := by decide +kernel
theorem oth_tabs : ∀ w ∈ othw, w.onTables = true := by decide +kernel
/-- what throws, catches and new rows of rows need of the classes -/
def EX (ct : Nat → ClassId) (U : State) : Prop := (∀ q ∈ strsw, ∃ a : Nat, vk_R q.1 q.2.1 q.2.2 a U) ∧ va_AO "ShockTube$State" U ∧ AOF ct U ∧ (∀ q ∈ ncw, va_Nc q.1 q.2 U) ∧ ∀ w ∈ othw, va_Nw w U
def EV (D : va_G) (ct : Nat → ClassId) (U : State) : Prop := va_K D classes (tysA ct) U ∧ (∀ w ∈ nestw, va_Nw w U) ∧ EX ct U
theorem EV.K {D : va_G} {ct : Nat → ClassId} {U : State} (h : EV D ct U) : va_K D classes (tysA ct) U := h.1
def isNest (w : Cond) : Bool := match w with | .fieldLinkNest .. => true | .methodLinkNest .. => true | _ => false
theorem nest_all : ∀ w ∈ nestw, isNest w = true := by decide +kernel
theorem EV.moved {D : va_G} {ct : Nat → ClassId} {s U : State} (hW : s.WarmedH U.vm) (h : EV D ct s) : EV D ct U := by
  refine ⟨va_K.moved hW.alike h.1, fun w hw => ?_, fun q hq => ?_, h.2.2.2.1.moved hW.alike, h.2.2.2.2.1.moved hW.alike, fun q hq => (h.2.2.2.2.2.1 q hq).moved hW.alike, fun w hw => ?_⟩
  · have h1 := h.2.1 w hw
    have h2 := nest_all w hw
    cases w <;> first | exact va_Nw.warmF hW h1 | exact va_Nw.warmM hW h1 | cases h2
  · obtain ⟨a, h1⟩ := h.2.2.1 q hq
    exact ⟨a, vk_R.warm hW h1⟩
  · have h1 := h.2.2.2.2.2.2 w hw
    have h2 := oth_all w hw
    cases w <;> first | exact va_Nw.warmC hW h1 | exact va_Nw.warmD hW h1 | cases h2
theorem EV.same {D : va_G} {ct : Nat → ClassId} {s U : State} (hv : s.vm = U.vm) (h : EV D ct s) : EV D ct U := by
  have hal : s.vm.Alike U.vm := by rw [hv]; exact Vm.Alike.refl U.vm
  refine ⟨va_K.moved (u := s) (U := U) hal h.1, fun w hw => ?_, fun q hq => ?_, h.2.2.2.1.moved hal, h.2.2.2.2.1.moved hal, fun q hq => (h.2.2.2.2.2.1 q hq).moved hal, fun w hw => va_Nw.same (oth_tabs w hw) hv (h.2.2.2.2.2.2 w hw)⟩
  · have h1 := h.2.1 w hw
    have h2 := nest_all w hw
    cases w <;> first | exact va_Nw.same rfl hv h1 | cases h2
  · obtain ⟨a, h1⟩ := h.2.2.1 q hq
    exact ⟨a, vk_R.same hv.symm h1⟩
/-- the four static tables, and the two statics that a throw reads; none of them may be written -/
def sv_nm (i : Nat) : String := match i with | 0 => "PRESSURE_TIMES" | 1 => "PRESSURE_PARTS" | 2 => "SOUND_TIMES" | _ => "SOUND_PARTS"
def sv_tb (i j : Nat) : Int32 := match i, j with | 0, 0 => 2 | 0, 1 => 2 | 0, _ => 1 | 1, 0 => 5 | 1, _ => 3 | 2, 0 => 7 | 2, 1 => 5 | 2, _ => 4 | _, 0 => 5 | _, _ => 3
def SV (st : Nat → Nat) (A : Nat → Prop) (U : State) (H : Heap) : Prop := (∀ i, i < 4 → va_Z "ShockTube" (sv_nm i) "[I" (.ref (st i)) A U H ∧ va_T .int (st i) 3 (fun j => .int (sv_tb i j)) A U H) ∧ vx_Zq Bundle.tN "UNASSIGNED_STACK" Bundle.steD A U H ∧ vx_Zq Bundle.tN "SUPPRESSED_SENTINEL" Bundle.listD A U H
theorem SV.moved {st : Nat → Nat} {A : Nat → Prop} {u U : State} {H : Heap} (hvm : u.vm.Alike U.vm) (h : SV st A u H) : SV st A U H :=
  ⟨fun i hi => ⟨(h.1 i hi).1.moved hvm, (h.1 i hi).2.moved hvm⟩, h.2.1.moved hvm, h.2.2.moved hvm⟩
theorem SV.kept {st : Nat → Nat} {A : Nat → Prop} {U : State} {H H1 : Heap} (h : SV st A U H) (hq : ∀ a : Nat, a < H.size → ¬ A a → H1[a]? = H[a]?) : SV st A U H1 :=
  ⟨fun i hi => ⟨(h.1 i hi).1.kept hq, (h.1 i hi).2.kept hq⟩, h.2.1.kept hq, h.2.2.kept hq⟩
theorem SV.narrow {st : Nat → Nat} {A B : Nat → Prop} {U : State} {H : Heap} (h : SV st A U H) (hAB : ∀ q, B q → A q) : SV st B U H :=
  ⟨fun i hi => ⟨(h.1 i hi).1.narrow hAB, (h.1 i hi).2.narrow hAB⟩, h.2.1.narrow hAB, h.2.2.narrow hAB⟩
theorem SV.at {st : Nat → Nat} {A B : Nat → Prop} {s U : State} {H : Heap} {locs : List Loc} (h : SV st A s s.heap) (hS : va_S A s.heap H locs) (hAB : ∀ q, B q → A q) (hU : U.heap = H) (hvm : s.vm.Alike U.vm) : SV st B U U.heap := by
  rw [hU]
  exact ((h.kept hS.2.1).narrow hAB).moved hvm
def PcR (D : va_G) (ct : Nat → ClassId) (st : Nat → Nat) (av : List Value) (W0 : va_W) : Array Value → State → Prop := fun v U => v = av.toArray ∧ va_P D classes W0 U.heap ∧ EV D ct U ∧ SV st (fun _ => False) U U.heap
def PcW (D : va_G) (ct : Nat → ClassId) (st : Nat → Nat) (av : List Value) (W0 : va_W) (sz : Nat) : Array Value → State → Prop := fun v U => v = av.toArray ∧ U.heap.size = sz ∧ va_P D classes W0 U.heap ∧ va_D (fun _ => True) W0 ∧ EV D ct U ∧ SV st (va_A W0 sz) U U.heap
def QcW (D : va_G) (W0 : va_W) (sz : Nat) (post : Option Value → va_W → Prop) : Array Value → State → Outcome → State → Prop := fun _ st oc t => (∃ (r : Option Value) (W1 : va_W), oc = .returned r ∧ post r W1 ∧ va_P D classes W1 t.heap ∧ va_D (va_A W0 sz) W1) ∧ va_F (va_A W0 sz) st t
theorem blR {D : va_G} {ct : Nat → ClassId} {st : Nat → Nat} {av : List Value} {W0 : va_W} : FrameBlind (PcR D ct st av W0) := fun a U g mk q => ⟨q.1, q.2.1, EV.same (s := U) (U := U.calling g mk a) rfl q.2.2.1, q.2.2.2.moved (u := U) (U := U.calling g mk a) (Vm.Alike.refl U.vm)⟩
theorem blW {D : va_G} {ct : Nat → ClassId} {st : Nat → Nat} {av : List Value} {W0 : va_W} {sz : Nat} : FrameBlind (PcW D ct st av W0 sz) := fun a U g mk q => ⟨q.1, q.2.1, q.2.2.1, q.2.2.2.1, EV.same (s := U) (U := U.calling g mk a) rfl q.2.2.2.2.1, q.2.2.2.2.2.moved (u := U) (U := U.calling g mk a) (Vm.Alike.refl U.vm)⟩
def rmW (f mc ms lo : Nat) : Room := { frames := f, cells := mc, slots := ms, locals := lo }
theorem enterR {y : MethodName} {b : ByteArray} {n : Nat} {r : Option FieldType} {l : Launch} {f lo : Nat} {D : va_G} {ct : Nat → ClassId} {st : Nat → Nat} {av : List Value} {W0 : va_W} {rv : Value} (hy : plainName y.cls = true) (hN : (lg_sl av).length ≤ n)
    (body : ∀ (p : Program) (e : Env) (s : State) (m : MethodId) (args : Array Value) (below : List Frame) (meth : Method) (c : Code) (ls : Array Slot), p.tables.exec = Jvm.exec → c.code = b → meth.sig.returnType = r → c.maxLocals = n → s.vm.findClass y.cls = some m.cls → (∀ w ∈ Cond.code y b n r :: wd, w.before args s = true) → meth.locks = false →
      va_P D classes W0 s.heap → EV D ct s → SV st (fun _ => False) s s.heap → va_S (fun _ => False) s.heap s.heap [] → lv_has ls n (lv_args 0 av) → W p l e (k2_rm f lo) s m args below meth c s.heap [] 0 0 (MQ below (k2_QcV rv) args s 0 0 (fun _ => False)) (F0 m 0 ls [])) :
    Met l y (wsy y b n r) (k2_rm f lo) (PcR D ct st av W0) (k2_QcV rv) 0 0 (fun _ => False) := by
  refine Met.ofW (cc := b) (maxL := n) (ret := r) hy rfl ?_
  intro p e s m args below meth c s₁ B hml hv
  obtain ⟨rfl, hP, hE, hV⟩ := hv
  have hl := lv_entry av (n := n) hN
  have key := body p e s m av.toArray below meth c ((lg_sl av ++ List.replicate (n - (lg_sl av).length) Slot.unset).toArray) B.exec B.bytes B.returns hml (findClass_of_methodNamed B.named) (atoms_spec (ws := Cond.code y b n r :: wd) B.pre) B.notSynchronized hP hE hV va_S.rf hl
  rw [lg_entry_eq]
  exact key
theorem enterW {y : MethodName} {b : ByteArray} {n : Nat} {r : Option FieldType} {l : Launch} {f lo mc ms : Nat} {D : va_G} {ct : Nat → ClassId} {st : Nat → Nat} {av : List Value} {W0 : va_W} {sz : Nat} {post : Option Value → va_W → Prop} (hy : plainName y.cls = true) (hN : (lg_sl av).length ≤ n)
    (body : ∀ (p : Program) (e : Env) (s : State) (m : MethodId) (args : Array Value) (below : List Frame) (meth : Method) (c : Code) (ls : Array Slot) (A : Nat → Prop), p.tables.exec = Jvm.exec → c.code = b → meth.sig.returnType = r → c.maxLocals = n → s.vm.findClass y.cls = some m.cls → (∀ w ∈ Cond.code y b n r :: wd, w.before args s = true) → meth.locks = false → meth.name = y.name →
      s.heap.size = sz → va_A W0 sz = A → va_P D classes W0 s.heap → va_D A W0 → (∀ q : Nat, s.heap.size ≤ q → A q) → EV D ct s → SV st A s s.heap → va_S A s.heap s.heap [] → lv_has ls n (lv_args 0 av) → W p l e (rmW f mc ms lo) s m args below meth c s.heap [] 0 0 (MQ below (QcW D W0 sz post) args s mc ms A) (F0 m 0 ls [])) :
    Met l y (wsy y b n r) (rmW f mc ms lo) (PcW D ct st av W0 sz) (QcW D W0 sz post) mc ms (va_A W0 sz) := by
  refine Met.ofW (cc := b) (maxL := n) (ret := r) hy rfl ?_
  intro p e s m args below meth c s₁ B hml hv
  obtain ⟨rfl, hsz, hP, hD0, hE, hV⟩ := hv
  have hl := lv_entry av (n := n) hN
  have key := body p e s m av.toArray below meth c ((lg_sl av ++ List.replicate (n - (lg_sl av).length) Slot.unset).toArray) (va_A W0 sz) B.exec B.bytes B.returns hml (findClass_of_methodNamed B.named) (atoms_spec (ws := Cond.code y b n r :: wd) B.pre) B.notSynchronized (name_of_methodNamed B.named B.method).1 hsz rfl hP (hD0.self (sz := sz)) (fun q h => Or.inr (by rw [← hsz]; exact h)) hE hV va_S.rf hl
  rw [lg_entry_eq]
  exact key
section QR
variable {p : Program} {l : Launch} {e : Env} {R : Room} {s : State} {m : MethodId} {args : Array Value} {below : List Frame} {meth : Method} {c : Code} {H : Heap} {locs : List Loc} {cells slots : Nat} {Q : State → Prop}
variable {cc : ByteArray} {pc : Nat} {ls : Array Slot} {rest : List Value} {D : va_G} {A : Nat → Prop} {a : Nat} {ct : Nat → ClassId} {ws : va_W} {H0 : Heap} {mc ms : Nat} {st : Nat → Nat}
/- ends -/
theorem rR_i {v w : Int32} (hx : p.tables.exec = Jvm.exec) (hb : c.code = cc) (hr : meth.sig.returnType = some .int) (hk : meth.locks = false) (hdg : decode cc pc = .ok (.ireturn, 1)) (hv : w = v) :
    W p l e R s m args below meth c s.heap [] 0 0 (MQ below (k2_QcV (.int v)) args s 0 0 (fun _ => False)) (F0 m pc ls [.int w]) := by
  subst hv
  exact W.iret hx hb hr (fun t ht _ => ⟨rfl, ht⟩) (fun q h => by cases h) hdg hk
theorem rR_l {v w : Int64} (hx : p.tables.exec = Jvm.exec) (hb : c.code = cc) (hr : meth.sig.returnType = some .long) (hk : meth.locks = false) (hdg : decode cc pc = .ok (.lreturn, 1)) (hv : w = v) :
    W p l e R s m args below meth c s.heap [] 0 0 (MQ below (k2_QcV (.long v)) args s 0 0 (fun _ => False)) (F0 m pc ls [.long w]) := by
  subst hv
  exact W.lret hx hb hr (fun t ht _ => ⟨rfl, ht⟩) (fun q h => by cases h) hdg hk
/-- a truth value as an int -/
noncomputable def bI (P : Prop) : Int32 := @ite _ P (Classical.propDecidable P) 1 0
theorem bI_t {P : Prop} (h : P) : bI P = 1 := if_pos h
theorem bI_f {P : Prop} (h : ¬ P) : bI P = 0 := if_neg h
theorem bI_1 {P : Prop} (h : P) : (1 : Int32) = bI P := (if_pos h).symm
theorem bI_0 {P : Prop} (h : ¬ P) : (0 : Int32) = bI P := (if_neg h).symm
theorem bI_nar (P : Prop) : narrow .boolean (.int (bI P)) = .int (bI P) := by
  by_cases h : P
  · rw [bI_t h]; rfl
  · rw [bI_f h]; rfl
theorem rR_z {P : Prop} {w : Int32} (hx : p.tables.exec = Jvm.exec) (hb : c.code = cc) (hr : meth.sig.returnType = some .boolean) (hk : meth.locks = false) (hdg : decode cc pc = .ok (.ireturn, 1)) (hv : w = bI P) :
    W p l e R s m args below meth c s.heap [] 0 0 (MQ below (k2_QcV (.int (bI P))) args s 0 0 (fun _ => False)) (F0 m pc ls [.int w]) := by
  subst hv
  exact W.zret hx hb hr (bI_nar P) (fun t ht _ => ⟨rfl, ht⟩) (fun q h => by cases h) hdg hk
theorem rW_v {W0 ws : va_W} {sz : Nat} {post : Option Value → va_W → Prop} (hx : p.tables.exec = Jvm.exec) (hb : c.code = cc) (hr : meth.sig.returnType = none) (hk : meth.locks = false) (hAe : va_A W0 sz = A) (hS : va_S A s.heap H locs) (hP : va_P D classes ws H) (hD : va_D A ws) (hc : cells ≤ mc) (hs : slots ≤ ms) (hdg : decode cc pc = .ok (.return_, 1)) (hq : post none ws) :
    W p l e R s m args below meth c H locs cells slots (MQ below (QcW D W0 sz post) args s mc ms A) (F0 m pc ls []) := by
  subst hAe
  exact W.widen hc hs (W.vret hx hb hr (fun t ht _ => ⟨⟨none, ws, rfl, hq, by rw [ht]; exact hP, hD⟩, hS.F ht⟩) hS.2.2 hdg hk)
theorem rW_i {W0 ws : va_W} {sz : Nat} {post : Option Value → va_W → Prop} {v : Int32} (hx : p.tables.exec = Jvm.exec) (hb : c.code = cc) (hr : meth.sig.returnType = some .int) (hk : meth.locks = false) (hAe : va_A W0 sz = A) (hS : va_S A s.heap H locs) (hP : va_P D classes ws H) (hD : va_D A ws) (hc : cells ≤ mc) (hs : slots ≤ ms) (hdg : decode cc pc = .ok (.ireturn, 1)) (hq : post (some (.int v)) ws) :
    W p l e R s m args below meth c H locs cells slots (MQ below (QcW D W0 sz post) args s mc ms A) (F0 m pc ls [.int v]) := by
  subst hAe
  exact W.widen hc hs (W.iret hx hb hr (fun t ht _ => ⟨⟨_, ws, rfl, hq, by rw [ht]; exact hP, hD⟩, hS.F ht⟩) hS.2.2 hdg hk)
theorem rW_l {W0 ws : va_W} {sz : Nat} {post : Option Value → va_W → Prop} {v : Int64} (hx : p.tables.exec = Jvm.exec) (hb : c.code = cc) (hr : meth.sig.returnType = some .long) (hk : meth.locks = false) (hAe : va_A W0 sz = A) (hS : va_S A s.heap H locs) (hP : va_P D classes ws H) (hD : va_D A ws) (hc : cells ≤ mc) (hs : slots ≤ ms) (hdg : decode cc pc = .ok (.lreturn, 1)) (hq : post (some (.long v)) ws) :
    W p l e R s m args below meth c H locs cells slots (MQ below (QcW D W0 sz post) args s mc ms A) (F0 m pc ls [.long v]) := by
  subst hAe
  exact W.widen hc hs (W.lret hx hb hr (fun t ht _ => ⟨⟨_, ws, rfl, hq, by rw [ht]; exact hP, hD⟩, hS.F ht⟩) hS.2.2 hdg hk)
theorem rW_z {W0 ws : va_W} {sz : Nat} {post : Option Value → va_W → Prop} {P : Prop} {w : Int32} (hx : p.tables.exec = Jvm.exec) (hb : c.code = cc) (hr : meth.sig.returnType = some .boolean) (hk : meth.locks = false) (hAe : va_A W0 sz = A) (hS : va_S A s.heap H locs) (hP : va_P D classes ws H) (hD : va_D A ws) (hc : cells ≤ mc) (hs : slots ≤ ms) (hdg : decode cc pc = .ok (.ireturn, 1)) (hv : w = bI P) (hq : post (some (.int (bI P))) ws) :
    W p l e R s m args below meth c H locs cells slots (MQ below (QcW D W0 sz post) args s mc ms A) (F0 m pc ls [.int w]) := by
  subst hAe
  subst hv
  exact W.widen hc hs (W.zret hx hb hr (bI_nar P) (fun t ht _ => ⟨⟨_, ws, rfl, hq, by rw [ht]; exact hP, hD⟩, hS.F ht⟩) hS.2.2 hdg hk)
/- a branch on a truth value -/
theorem q_ifeq_b {P : Prop} (hx : p.tables.exec = Jvm.exec) (hb : c.code = cc) {off : Int} {tgt : Nat} (hdg : decode cc pc = .ok (.ifCond .eq off, 3)) (ht : (pc : Int) + off = (tgt : Int)) (kt : ¬ P → W p l e R s m args below meth c H locs cells slots Q (F0 m tgt ls rest)) (kf : P → W p l e R s m args below meth c H locs cells slots Q (F0 m (pc + 3) ls rest)) : W p l e R s m args below meth c H locs cells slots Q (F0 m pc ls (.int (bI P) :: rest)) := by
  refine lv_if_eq hx hb hdg ht (fun h => kt fun z => ?_) (fun h => kf (Classical.byContradiction fun z => h (bI_f z)))
  rw [bI_t z] at h
  cases h
theorem q_ifne_b {P : Prop} (hx : p.tables.exec = Jvm.exec) (hb : c.code = cc) {off : Int} {tgt : Nat} (hdg : decode cc pc = .ok (.ifCond .ne off, 3)) (ht : (pc : Int) + off = (tgt : Int)) (kt : P → W p l e R s m args below meth c H locs cells slots Q (F0 m tgt ls rest)) (kf : ¬ P → W p l e R s m args below meth c H locs cells slots Q (F0 m (pc + 3) ls rest)) : W p l e R s m args below meth c H locs cells slots Q (F0 m pc ls (.int (bI P) :: rest)) := by
  refine lv_if_ne hx hb hdg ht (fun h => kt (Classical.byContradiction fun z => h (bI_f z))) (fun h => kf fun z => ?_)
  rw [bI_t z] at h
  cases h
/- comparing longs: the branch behind lcmp -/
theorem lc_lt (x y : Int64) : lg_cmp x y < 0 ↔ x < y := by
  unfold lg_cmp
  simp only [gt_iff_lt, Int64.lt_iff_toInt_lt, ← Int64.toInt_inj]
  split
  · constructor
    · intro h; exact absurd h (by decide)
    · intro h; omega
  · split
    · constructor
      · intro h; exact absurd h (by decide)
      · intro h; omega
    · constructor
      · intro h; omega
      · intro h; decide
theorem lc_gt (x y : Int64) : 0 < lg_cmp x y ↔ y < x := by
  unfold lg_cmp
  simp only [gt_iff_lt, Int64.lt_iff_toInt_lt, ← Int64.toInt_inj]
  split
  · constructor
    · intro h; assumption
    · intro h; decide
  · split
    · constructor
      · intro h; exact absurd h (by decide)
      · intro h; omega
    · constructor
      · intro h; exact absurd h (by decide)
      · intro h; omega
theorem lc_eq (x y : Int64) : lg_cmp x y = 0 ↔ x = y := by
  unfold lg_cmp
  simp only [gt_iff_lt, Int64.lt_iff_toInt_lt, ← Int64.toInt_inj]
  split
  · constructor
    · intro h; exact absurd h (by decide)
    · intro h; omega
  · split
    · constructor
      · intro h; assumption
      · intro h; rfl
    · constructor
      · intro h; exact absurd h (by decide)
      · intro h; omega
theorem lc_le (x y : Int64) : lg_cmp x y ≤ 0 ↔ x ≤ y := by
  have h1 := lc_gt x y
  rw [← Int32.not_lt, h1, Int64.not_lt]
theorem lc_ge (x y : Int64) : 0 ≤ lg_cmp x y ↔ y ≤ x := lg_cmp_ge x y
theorem q_cmp_eq {x y : Int64} (hx : p.tables.exec = Jvm.exec) (hb : c.code = cc) {off : Int} {tgt : Nat} (hdg : decode cc pc = .ok (.ifCond .eq off, 3)) (ht : (pc : Int) + off = (tgt : Int)) (kt : x = y → W p l e R s m args below meth c H locs cells slots Q (F0 m tgt ls rest)) (kf : ¬ x = y → W p l e R s m args below meth c H locs cells slots Q (F0 m (pc + 3) ls rest)) : W p l e R s m args below meth c H locs cells slots Q (F0 m pc ls (.int (lg_cmp x y) :: rest)) :=
  lv_if_eq hx hb hdg ht (fun h => kt ((lc_eq x y).mp h)) (fun h => kf fun z => h ((lc_eq x y).mpr z))
theorem q_cmp_ne {x y : Int64} (hx : p.tables.exec = Jvm.exec) (hb : c.code = cc) {off : Int} {tgt : Nat} (hdg : decode cc pc = .ok (.ifCond .ne off, 3)) (ht : (pc : Int) + off = (tgt : Int)) (kt : ¬ x = y → W p l e R s m args below meth c H locs cells slots Q (F0 m tgt ls rest)) (kf : x = y → W p l e R s m args below meth c H locs cells slots Q (F0 m (pc + 3) ls rest)) : W p l e R s m args below meth c H locs cells slots Q (F0 m pc ls (.int (lg_cmp x y) :: rest)) :=
  lv_if_ne hx hb hdg ht (fun h => kt fun z => h ((lc_eq x y).mpr z)) (fun h => kf ((lc_eq x y).mp h))
theorem q_cmp_lt {x y : Int64} (hx : p.tables.exec = Jvm.exec) (hb : c.code = cc) {off : Int} {tgt : Nat} (hdg : decode cc pc = .ok (.ifCond .lt off, 3)) (ht : (pc : Int) + off = (tgt : Int)) (kt : x < y → W p l e R s m args below meth c H locs cells slots Q (F0 m tgt ls rest)) (kf : ¬ x < y → W p l e R s m args below meth c H locs cells slots Q (F0 m (pc + 3) ls rest)) : W p l e R s m args below meth c H locs cells slots Q (F0 m pc ls (.int (lg_cmp x y) :: rest)) :=
  lv_if_lt hx hb hdg ht (fun h => kt ((lc_lt x y).mp h)) (fun h => kf fun z => h ((lc_lt x y).mpr z))
theorem q_cmp_ge {x y : Int64} (hx : p.tables.exec = Jvm.exec) (hb : c.code = cc) {off : Int} {tgt : Nat} (hdg : decode cc pc = .ok (.ifCond .ge off, 3)) (ht : (pc : Int) + off = (tgt : Int)) (kt : y ≤ x → W p l e R s m args below meth c H locs cells slots Q (F0 m tgt ls rest)) (kf : ¬ y ≤ x → W p l e R s m args below meth c H locs cells slots Q (F0 m (pc + 3) ls rest)) : W p l e R s m args below meth c H locs cells slots Q (F0 m pc ls (.int (lg_cmp x y) :: rest)) :=
  lv_if_ge hx hb hdg ht (fun h => kt ((lc_ge x y).mp h)) (fun h => kf fun z => h ((lc_ge x y).mpr z))
theorem q_cmp_gt {x y : Int64} (hx : p.tables.exec = Jvm.exec) (hb : c.code = cc) {off : Int} {tgt : Nat} (hdg : decode cc pc = .ok (.ifCond .gt off, 3)) (ht : (pc : Int) + off = (tgt : Int)) (kt : y < x → W p l e R s m args below meth c H locs cells slots Q (F0 m tgt ls rest)) (kf : ¬ y < x → W p l e R s m args below meth c H locs cells slots Q (F0 m (pc + 3) ls rest)) : W p l e R s m args below meth c H locs cells slots Q (F0 m pc ls (.int (lg_cmp x y) :: rest)) :=
  lv_if_gt hx hb hdg ht (fun h => kt ((lc_gt x y).mp h)) (fun h => kf fun z => h ((lc_gt x y).mpr z))
theorem q_cmp_le {x y : Int64} (hx : p.tables.exec = Jvm.exec) (hb : c.code = cc) {off : Int} {tgt : Nat} (hdg : decode cc pc = .ok (.ifCond .le off, 3)) (ht : (pc : Int) + off = (tgt : Int)) (kt : x ≤ y → W p l e R s m args below meth c H locs cells slots Q (F0 m tgt ls rest)) (kf : ¬ x ≤ y → W p l e R s m args below meth c H locs cells slots Q (F0 m (pc + 3) ls rest)) : W p l e R s m args below meth c H locs cells slots Q (F0 m pc ls (.int (lg_cmp x y) :: rest)) :=
  lv_if_le hx hb hdg ht (fun h => kt ((lc_le x y).mp h)) (fun h => kf fun z => h ((lc_le x y).mpr z))
/- numbers with a name for the result -/
theorem q_iadd {x y v : Int32} (hx : p.tables.exec = Jvm.exec) (hb : c.code = cc) (hdg : decode cc pc = .ok (.iadd, 1)) (hv : x + y = v) (k : W p l e R s m args below meth c H locs cells slots Q (F0 m (pc + 1) ls (.int v :: rest))) : W p l e R s m args below meth c H locs cells slots Q (F0 m pc ls (.int y :: .int x :: rest)) := by
  subst hv
  exact lv_iadd hx hb hdg k
theorem q_isub {x y v : Int32} (hx : p.tables.exec = Jvm.exec) (hb : c.code = cc) (hdg : decode cc pc = .ok (.isub, 1)) (hv : x - y = v) (k : W p l e R s m args below meth c H locs cells slots Q (F0 m (pc + 1) ls (.int v :: rest))) : W p l e R s m args below meth c H locs cells slots Q (F0 m pc ls (.int y :: .int x :: rest)) := by
  subst hv
  exact lv_isub hx hb hdg k
theorem q_imul {x y v : Int32} (hx : p.tables.exec = Jvm.exec) (hb : c.code = cc) (hdg : decode cc pc = .ok (.imul, 1)) (hv : x * y = v) (k : W p l e R s m args below meth c H locs cells slots Q (F0 m (pc + 1) ls (.int v :: rest))) : W p l e R s m args below meth c H locs cells slots Q (F0 m pc ls (.int y :: .int x :: rest)) := by
  subst hv
  exact lv_imul hx hb hdg k
theorem q_ladd {x y v : Int64} (hx : p.tables.exec = Jvm.exec) (hb : c.code = cc) (hdg : decode cc pc = .ok (.ladd, 1)) (hv : x + y = v) (k : W p l e R s m args below meth c H locs cells slots Q (F0 m (pc + 1) ls (.long v :: rest))) : W p l e R s m args below meth c H locs cells slots Q (F0 m pc ls (.long y :: .long x :: rest)) := by
  subst hv
  exact lv_ladd hx hb hdg k
theorem q_lsub {x y v : Int64} (hx : p.tables.exec = Jvm.exec) (hb : c.code = cc) (hdg : decode cc pc = .ok (.lsub, 1)) (hv : x - y = v) (k : W p l e R s m args below meth c H locs cells slots Q (F0 m (pc + 1) ls (.long v :: rest))) : W p l e R s m args below meth c H locs cells slots Q (F0 m pc ls (.long y :: .long x :: rest)) := by
  subst hv
  exact lv_lsub hx hb hdg k
theorem q_lmul {x y v : Int64} (hx : p.tables.exec = Jvm.exec) (hb : c.code = cc) (hdg : decode cc pc = .ok (.lmul, 1)) (hv : x * y = v) (k : W p l e R s m args below meth c H locs cells slots Q (F0 m (pc + 1) ls (.long v :: rest))) : W p l e R s m args below meth c H locs cells slots Q (F0 m pc ls (.long y :: .long x :: rest)) := by
  subst hv
  exact lv_lmul hx hb hdg k
/-- the int on top, by another name -/
theorem q_topi {x v : Int32} (hv : x = v) (k : W p l e R s m args below meth c H locs cells slots Q (F0 m pc ls (.int v :: rest))) : W p l e R s m args below meth c H locs cells slots Q (F0 m pc ls (.int x :: rest)) := by
  subst hv
  exact k
theorem q_topl {x v : Int64} (hv : x = v) (k : W p l e R s m args below meth c H locs cells slots Q (F0 m pc ls (.long v :: rest))) : W p l e R s m args below meth c H locs cells slots Q (F0 m pc ls (.long x :: rest)) := by
  subst hv
  exact k
/- rows of numbers: a place is a small natural -/
theorem q_at {i : Int32} {k n : Nat} (hi : i = nI k) (hk : k < n) (hn : n < 2 ^ 31) : vp_in i n ∧ i.toNatClampNeg = k := by
  subst hi
  exact ⟨vp_in_nI hk hn, nI_clamp (by omega)⟩
theorem q_iald {n k : Nat} {f : Nat → Int32} {i : Int32} (q0 : Nat) (hx : p.tables.exec = Jvm.exec) (hb : c.code = cc) (hE : EV D ct s) (hP : va_P D classes ws H) (ha : ws[q0]? = some (a, .inl (ct 0, n, .inl f))) (hi : i = nI k) (hk : k < n) (hn : n < 2 ^ 31) (hdg : decode cc pc = .ok (.iaload, 1)) (kk : W p l e R s m args below meth c H locs cells slots Q (F0 m (pc + 1) ls (.int (f k) :: rest))) : W p l e R s m args below meth c H locs cells slots Q (F0 m pc ls (.int i :: .ref a :: rest)) := by
  obtain ⟨h1, h2⟩ := q_at hi hk hn
  refine va_iald hx hb hE.K hP q0 0 ha rfl h1 hdg ?_
  rw [h2]
  exact kk
theorem q_lald {n k : Nat} {f : Nat → Int64} {i : Int32} (q0 : Nat) (hx : p.tables.exec = Jvm.exec) (hb : c.code = cc) (hE : EV D ct s) (hP : va_P D classes ws H) (ha : ws[q0]? = some (a, .inl (ct 1, n, .inr (.inl f)))) (hi : i = nI k) (hk : k < n) (hn : n < 2 ^ 31) (hdg : decode cc pc = .ok (.laload, 1)) (kk : W p l e R s m args below meth c H locs cells slots Q (F0 m (pc + 1) ls (.long (f k) :: rest))) : W p l e R s m args below meth c H locs cells slots Q (F0 m pc ls (.int i :: .ref a :: rest)) := by
  obtain ⟨h1, h2⟩ := q_at hi hk hn
  refine va_lald hx hb hE.K hP q0 1 ha rfl h1 hdg ?_
  rw [h2]
  exact kk
theorem q_iast {n k : Nat} {f g : Nat → Int32} {i : Int32} {x : Int32} (q0 : Nat) {ws1 : va_W} (hg : g = upd f k x) (hx : p.tables.exec = Jvm.exec) (hb : c.code = cc) (hE : EV D ct s) (hP : va_P D classes ws H) (hD : va_D A ws) (hS : va_S A H0 H locs) (ha : ws[q0]? = some (a, .inl (ct 0, n, .inl f))) (hi : i = nI k) (hk : k < n) (hn : n < 2 ^ 31) (hw : ws.set q0 (a, .inl (ct 0, n, .inl g)) = ws1) (hdg : decode cc pc = .ok (.iastore, 1)) (kk : ∀ (H1 : Heap) (locs1 : List Loc), va_P D classes ws1 H1 → va_D A ws1 → va_S A H0 H1 locs1 → W p l e R s m args below meth c H1 locs1 cells slots Q (F0 m (pc + 1) ls rest)) : W p l e R s m args below meth c H locs cells slots Q (F0 m pc ls (.int x :: .int i :: .ref a :: rest)) := by
  obtain ⟨h1, h2⟩ := q_at hi hk hn
  refine va_iast hx hb hE.K hP hD hS q0 0 ha rfl h1 hdg (fun H1 locs1 => ?_)
  rw [h2, ← hg, hw]
  exact kk H1 locs1
theorem q_last {n k : Nat} {f g : Nat → Int64} {i : Int32} {x : Int64} (q0 : Nat) {ws1 : va_W} (hg : g = vp_updL f k x) (hx : p.tables.exec = Jvm.exec) (hb : c.code = cc) (hE : EV D ct s) (hP : va_P D classes ws H) (hD : va_D A ws) (hS : va_S A H0 H locs) (ha : ws[q0]? = some (a, .inl (ct 1, n, .inr (.inl f)))) (hi : i = nI k) (hk : k < n) (hn : n < 2 ^ 31) (hw : ws.set q0 (a, .inl (ct 1, n, .inr (.inl g))) = ws1) (hdg : decode cc pc = .ok (.lastore, 1)) (kk : ∀ (H1 : Heap) (locs1 : List Loc), va_P D classes ws1 H1 → va_D A ws1 → va_S A H0 H1 locs1 → W p l e R s m args below meth c H1 locs1 cells slots Q (F0 m (pc + 1) ls rest)) : W p l e R s m args below meth c H locs cells slots Q (F0 m pc ls (.long x :: .int i :: .ref a :: rest)) := by
  obtain ⟨h1, h2⟩ := q_at hi hk hn
  refine va_last hx hb hE.K hP hD hS q0 1 ha rfl h1 hdg (fun H1 locs1 => ?_)
  rw [h2, ← hg, hw]
  exact kk H1 locs1
/-- a row of a table of rows -/
theorem q_aald {n k : Nat} {f : Nat → Option Nat} {i : Int32} {r : Nat} (q0 : Nat) (hx : p.tables.exec = Jvm.exec) (hb : c.code = cc) (hE : EV D ct s) (hP : va_P D classes ws H) (ha : ws[q0]? = some (a, .inl (ct 4, n, .inr (.inr (.inr (.inr f)))))) (hi : i = nI k) (hk : k < n) (hn : n < 2 ^ 31) (hf : f k = some r) (hdg : decode cc pc = .ok (.aaload, 1)) (kk : W p l e R s m args below meth c H locs cells slots Q (F0 m (pc + 1) ls (.ref r :: rest))) : W p l e R s m args below meth c H locs cells slots Q (F0 m pc ls (.int i :: .ref a :: rest)) := by
  obtain ⟨h1, h2⟩ := q_at hi hk hn
  refine W.aald (v := .ref r) (ty := .array .long) hx hb (hP q0 _ ha) ((hE.K.2 4 _ rfl).1 n (fun j => va_rf (f j))) rfl (fun q => by cases q) (by show ¬ (i < 0 ∨ (arrV _ _ _).slots.size ≤ _); rw [arrV_size]; exact h1) (by show (arrV _ _ _).slots[_]? = _; rw [h2, arrV_read _ _ hk, hf]; rfl) rfl rfl hdg kk
/- fields -/
theorem q_get {C : String} {T : u_T} {N ci : Nat} {a0 : Cond} {own : String} {index : Nat} {v : Value} (q0 k : Nat) {fs : List Value} (hin : ∀ w ∈ u_ws C T N, w ∈ wd) (hc : classes[ci]? = some (C, T, N)) (hx : p.tables.exec = Jvm.exec) (hb : c.code = cc) (hts : ∀ w ∈ a0 :: wd, w.before args s = true) (hown : s.vm.findClass own = some m.cls) (hE : EV D ct s) (hP : va_P D classes ws H) (he : ws[q0]? = some (a, .inr (ci, fs))) (hk : k < N) (hlink : Cond.fieldLink own index (T k).1 (T k).2.1 (T k).2.2.1 ∈ wd) (hv : fs[k]? = some v) (hdg : decode cc pc = .ok (.getfield index, 3))
    (kk : W p l e R s m args below meth c H locs cells slots Q (F0 m (pc + 3) ls (v :: rest))) : W p l e R s m args below meth c H locs cells slots Q (F0 m pc ls (.ref a :: rest)) :=
  va_get hx hb hts (fun w h => List.mem_cons_of_mem _ (hin w h)) hown hE.K hP q0 he hc k hk (hts _ (List.mem_cons_of_mem _ hlink)) (fun _ h => h) hv hdg kk
theorem q_put {C : String} {T : u_T} {N ci : Nat} {a0 : Cond} {own : String} {index : Nat} {v : Value} {ty : FieldType} (q0 k : Nat) {fs : List Value} {ws1 : va_W} (ty0 : Nat → FieldType) (hin : ∀ w ∈ u_ws C T N, w ∈ wd) (hty : ∀ k, k < N → parseFieldDescriptor (T k).2.2.1 = some (ty0 k)) (hnm : ∀ a, a < N → ∀ b, b < N → a ≠ b → (T a).2.1 ≠ (T b).2.1) (hc : classes[ci]? = some (C, T, N)) (hx : p.tables.exec = Jvm.exec) (hb : c.code = cc) (hts : ∀ w ∈ a0 :: wd, w.before args s = true) (hown : s.vm.findClass own = some m.cls) (hE : EV D ct s) (hP : va_P D classes ws H) (hD : va_D A ws) (hS : va_S A H0 H locs) (he : ws[q0]? = some (a, .inr (ci, fs))) (hk : k < N) (hlink : Cond.fieldLink own index (T k).1 (T k).2.1 (T k).2.2.1 ∈ wd) (hfin : (T k).2.2.2 = false) (hd : parseFieldDescriptor (T k).2.2.1 = some ty) (hn : narrow ty v = v) (hfit : fits ty v = true) (hl : k < fs.length) (hw : ws.set q0 (a, .inr (ci, fs.set k v)) = ws1) (hdg : decode cc pc = .ok (.putfield index, 3))
    (kk : ∀ (H1 : Heap) (locs1 : List Loc), va_P D classes ws1 H1 → va_D A ws1 → va_S A H0 H1 locs1 → W p l e R s m args below meth c H1 locs1 cells slots Q (F0 m (pc + 3) ls rest)) : W p l e R s m args below meth c H locs cells slots Q (F0 m pc ls (v :: .ref a :: rest)) := by
  subst hw
  exact va_put hx hb hts (fun w h => List.mem_cons_of_mem _ (hin w h)) ty0 hty hnm hown hE.K hP hD hS q0 he hc k hk (hts _ (List.mem_cons_of_mem _ hlink)) (fun _ h => h) hfin hd hn hfit hl hdg kk
theorem q_putF {C : String} {T : u_T} {N ci : Nat} {a0 : Cond} {own : String} {index : Nat} {v : Value} {ty : FieldType} (q0 k : Nat) {fs : List Value} {ws1 : va_W} (ty0 : Nat → FieldType) (hin : ∀ w ∈ u_ws C T N, w ∈ wd) (hty : ∀ k, k < N → parseFieldDescriptor (T k).2.2.1 = some (ty0 k)) (hnm : ∀ a, a < N → ∀ b, b < N → a ≠ b → (T a).2.1 ≠ (T b).2.1) (hc : classes[ci]? = some (C, T, N)) (hx : p.tables.exec = Jvm.exec) (hb : c.code = cc) (hts : ∀ w ∈ a0 :: wd, w.before args s = true) (hown : s.vm.findClass own = some m.cls) (hin2 : meth.name = "<init>") (hE : EV D ct s) (hP : va_P D classes ws H) (hD : va_D A ws) (hS : va_S A H0 H locs) (he : ws[q0]? = some (a, .inr (ci, fs))) (hk : k < N) (hlink : Cond.fieldLink own index (T k).1 (T k).2.1 (T k).2.2.1 ∈ wd) (hfin : (T k).2.2.2 = true) (hdecl : (T k).1 = own) (hd : parseFieldDescriptor (T k).2.2.1 = some ty) (hn : narrow ty v = v) (hfit : fits ty v = true) (hl : k < fs.length) (hw : ws.set q0 (a, .inr (ci, fs.set k v)) = ws1) (hdg : decode cc pc = .ok (.putfield index, 3))
    (kk : ∀ (H1 : Heap) (locs1 : List Loc), va_P D classes ws1 H1 → va_D A ws1 → va_S A H0 H1 locs1 → W p l e R s m args below meth c H1 locs1 cells slots Q (F0 m (pc + 3) ls rest)) : W p l e R s m args below meth c H locs cells slots Q (F0 m pc ls (v :: .ref a :: rest)) := by
  subst hw
  exact va_putF hx hb hts (fun w h => List.mem_cons_of_mem _ (hin w h)) ty0 hty hnm hown hE.K hP hD hS q0 he hc k hk (hts _ (List.mem_cons_of_mem _ hlink)) (fun _ h => h) hfin hin2 hdecl hd hn hfit hl hdg kk
theorem cRS {y : MethodName} {bz : ByteArray} {nz ar nL idx f lo : Nat} {rz : Option FieldType} {a0 : Cond} {own : String} {As : List Value} {W0 : va_W} {stk : List Value} {rv : Value} (K : kS y bz nz rz ar) (hl : Cond.methodLink own idx y ∈ wd) (hx : p.tables.exec = Jvm.exec) (hb : c.code = cc) (hml : c.maxLocals = nL) (hown : s.vm.findClass own = some m.cls) (hts : ∀ w ∈ a0 :: wd, w.before args s = true) (hE : EV D ct s) (hV : SV st A s s.heap) (hS : va_S A s.heap H locs) (hM : Met l y (wsy y bz nz rz) (k2_rm f lo) (PcR D ct st As W0) (k2_QcV rv) 0 0 (fun _ => False)) (hP : va_P D classes W0 H)
    (hn : As.length = ar) (hsz : ls.size = nL) (hst : stk = As.reverse ++ rest) (hcat : (rest.map fun v => v.category).sum ≤ 8) (hdg : decode cc pc = .ok (.invokestatic idx, 3)) (hR1 : f + 1 ≤ R.frames) (hR2 : 8 + (nz + 11) + lo ≤ R.locals) (hcs : cells ≤ R.cells ∧ slots ≤ R.slots) (kk : W p l e R s m args below meth c H locs cells slots Q (F0 m (pc + 3) ls (rv :: rest))) : W p l e R s m args below meth c H locs cells slots Q (F0 m pc ls stk) := by
  have hG : GoodIn (a0 :: wd) (wsy y bz nz rz) := gin K.1
  have cb : CallB R s args own idx y bz nz rz (wsy y bz nz rz) (k2_rm f lo) 0 0 ar := callB_of ar hts hG rfl rfl rfl (hts _ (List.mem_cons_of_mem _ K.2.1)) (hts _ (List.mem_cons_of_mem _ hl)) K.2.2.2 ⟨hR1, hR2⟩
  exact W.callV (va_Run.run (va_runS (As := As) (rest := rest) (g := F0 m pc ls stk) (own := own) (Ts := a0 :: wd) (nL := nL) ⟨hx, hb, hml, hown, hts⟩ hM ⟨cb, hts _ (List.mem_cons_of_mem _ K.2.2.1)⟩ ⟨blR, fun U hU hW => ⟨rfl, by rw [hU]; exact hP, hE.moved hW, hV.at hS (fun _ z => z.elim) hU hW.alike⟩⟩ rfl hn hsz hst (by simpa [JFrame.monitorRoom] using hcat) hdg hcs)) kk
theorem cWS {y : MethodName} {bz : ByteArray} {nz ar nL idx f lo : Nat} {rz : Option FieldType} {a0 : Cond} {own : String} {As : List Value} {W0 : va_W} {stk : List Value} {post : Option Value → va_W → Prop} (K : kS y bz nz rz ar) (hl : Cond.methodLink own idx y ∈ wd) (hx : p.tables.exec = Jvm.exec) (hb : c.code = cc) (hml : c.maxLocals = nL) (hown : s.vm.findClass own = some m.cls) (hts : ∀ w ∈ a0 :: wd, w.before args s = true) (hE : EV D ct s) (hV : SV st A s s.heap) (hS : va_S A s.heap H locs) (hM : Met l y (wsy y bz nz rz) (rmW f mc ms lo) (PcW D ct st As W0 H.size) (QcW D W0 H.size post) mc ms (va_A W0 H.size)) (hP : va_P D classes ws H) (hD : va_D A ws) (hA : ∀ q : Nat, s.heap.size ≤ q → A q) (isC isR : List Nat) {wr : va_W} (hC : isC.map (fun i => ws[i]?) = W0.map some) (hRr : isR.map (fun i => ws[i]?) = wr.map some) (hnd : va_nd isC = true) (hnr : va_nd isR = true) (hdis : ∀ i ∈ isR, i ∉ isC)
    (hn : As.length = ar) (hsz : ls.size = nL) (hst : stk = As.reverse ++ rest) (hcat : (rest.map fun v => v.category).sum ≤ 8) (hdg : decode cc pc = .ok (.invokestatic idx, 3)) (hR1 : f + 1 ≤ R.frames) (hR2 : 8 + (nz + 11) + lo ≤ R.locals) (hcs : cells + mc ≤ R.cells ∧ slots + ms ≤ R.slots) (kk : ∀ (v : Option Value) (W1 : va_W) (H1 : Heap) (locs1 : List Loc), post v W1 → va_P D classes (wr ++ W1) H1 → va_D A (wr ++ W1) → va_S A s.heap H1 locs1 → W p l e R s m args below meth c H1 locs1 (cells + mc) (slots + ms) Q (F0 m (pc + 3) ls (v.toList ++ rest))) : W p l e R s m args below meth c H locs cells slots Q (F0 m pc ls stk) := by
  have hG : GoodIn (a0 :: wd) (wsy y bz nz rz) := gin K.1
  have cb : CallB R s args own idx y bz nz rz (wsy y bz nz rz) (rmW f mc ms lo) mc ms ar := callB_of ar hts hG rfl rfl rfl (hts _ (List.mem_cons_of_mem _ K.2.1)) (hts _ (List.mem_cons_of_mem _ hl)) K.2.2.2 ⟨hR1, hR2⟩
  have hFc := va_free (wc := W0) hD hS hA isC hC
  have hPc : va_P D classes W0 H := fun k q hq => by
    obtain ⟨i, -, h2⟩ := va_in_of isC hC hq
    exact hP i q h2
  have hDc := hD.sub (ws' := W0) isC hnd hC
  have hrun : va_Run p l e R s m args below meth c H locs cells slots mc ms (F0 m pc ls stk) rest (QcW D W0 H.size post As.toArray) (va_A W0 H.size) := va_runS (As := As) (rest := rest) (g := F0 m pc ls stk) (own := own) (Ts := a0 :: wd) (nL := nL) ⟨hx, hb, hml, hown, hts⟩ hM ⟨cb, hts _ (List.mem_cons_of_mem _ K.2.2.1)⟩ ⟨blW, fun U hU hW => ⟨rfl, by rw [hU], by rw [hU]; exact hPc, hDc.weaken (fun _ _ _ _ => trivial), hE.moved hW, hV.at hS hFc hU hW.alike⟩⟩ rfl hn hsz hst (by simpa [JFrame.monitorRoom] using hcat) hdg hcs
  intro T hT X
  obtain ⟨v, st₀, t, T', L, h0, X', hL, e1, e2, ⟨⟨r, W1, hv, hp, hP1, hD1⟩, hz, hk⟩, stp⟩ := hrun T hT X
  cases hv
  rw [h0] at hz hk
  rw [← e1] at hP1 hz hk
  obtain ⟨hPj, hDj⟩ := va_join (wr := wr) (w1 := W1) hP hD isC isR hC hRr hnr hdis hk hFc hP1 hD1
  obtain ⟨t2, a1, b1⟩ := kk _ W1 T'.heap (locs ++ L) hp hPj hDj ⟨Nat.le_trans hS.1 hz, fun q h1 h2 => by
      rw [hk q (Nat.lt_of_lt_of_le h1 hS.1) (fun z => h2 (hFc q z))]
      exact hS.2.1 q h1 h2, fun q hq => by
      rcases List.mem_append.mp hq with h | h
      · exact hS.2.2 q h
      · exact hFc _ (hL q h)⟩ T' rfl X'
  exact ⟨t2, stp t2 a1, b1⟩
theorem cRV {y : MethodName} {bz : ByteArray} {nz ar nL idx f lo : Nat} {rz : Option FieldType} {a0 : Cond} {own : String} {As : List Value} {W0 : va_W} {stk : List Value} {rv : Value} {b : Nat} {ci q9 : Nat} {T9 : u_T} {N9 : Nat} {fs9 : List Value} {w9 : va_W} (K : kV y bz nz rz ar) (hl : Cond.methodLink own idx y ∈ wd) (hx : p.tables.exec = Jvm.exec) (hb : c.code = cc) (hml : c.maxLocals = nL) (hown : s.vm.findClass own = some m.cls) (hts : ∀ w ∈ a0 :: wd, w.before args s = true) (hE : EV D ct s) (hV : SV st A s s.heap) (hS : va_S A s.heap H locs) (hM : Met l y (wsy y bz nz rz) (k2_rm f lo) (PcR D ct st (.ref b :: As) W0) (k2_QcV rv) 0 0 (fun _ => False)) (hP : va_P D classes W0 H) (hc : classes[ci]? = some (y.cls, T9, N9)) (hP9 : va_P D classes w9 H) (he : w9[q9]? = some (b, .inr (ci, fs9)))
    (hn : As.length = ar) (hsz : ls.size = nL) (hst : stk = As.reverse ++ .ref b :: rest) (hcat : (rest.map fun v => v.category).sum ≤ 8) (hdg : decode cc pc = .ok (.invokevirtual idx, 3)) (hR1 : f + 1 ≤ R.frames) (hR2 : 8 + (nz + 11) + lo ≤ R.locals) (hcs : cells ≤ R.cells ∧ slots ≤ R.slots) (kk : W p l e R s m args below meth c H locs cells slots Q (F0 m (pc + 3) ls (rv :: rest))) : W p l e R s m args below meth c H locs cells slots Q (F0 m pc ls stk) := by
  have hG : GoodIn (a0 :: wd) (wsy y bz nz rz) := gin K.1
  have cb : CallB R s args own idx y bz nz rz (wsy y bz nz rz) (k2_rm f lo) 0 0 ar := callB_of ar hts hG rfl rfl rfl (hts _ (List.mem_cons_of_mem _ K.2.1)) (hts _ (List.mem_cons_of_mem _ hl)) K.2.2.2 ⟨hR1, hR2⟩
  have hrec : ∃ cellB : Cell, H[b]? = some cellB ∧ cellB.vm.isStatics = false ∧ s.vm.findClass y.cls = some cellB.cls := va_recv hE.K hP9 hc he
  exact W.callV (va_Run.run (va_runV (As := As) (b := b) (C := y.cls) (rest := rest) (g := F0 m pc ls stk) (own := own) (Ts := a0 :: wd) (nL := nL) ⟨hx, hb, hml, hown, hts⟩ hM ⟨cb, hts _ (List.mem_cons_of_mem _ K.2.2.1.1), hts _ (List.mem_cons_of_mem _ K.2.2.1.2)⟩ ⟨blR, hrec, fun U hU hW => ⟨rfl, by rw [hU]; exact hP, hE.moved hW, hV.at hS (fun _ z => z.elim) hU hW.alike⟩⟩ rfl hn hsz hst (by simpa [JFrame.monitorRoom] using hcat) hdg hcs)) kk
theorem cWV {y : MethodName} {bz : ByteArray} {nz ar nL idx f lo : Nat} {rz : Option FieldType} {a0 : Cond} {own : String} {As : List Value} {W0 : va_W} {stk : List Value} {post : Option Value → va_W → Prop} {b : Nat} {ci q9 : Nat} {T9 : u_T} {N9 : Nat} {fs9 : List Value} {w9 : va_W} (K : kV y bz nz rz ar) (hl : Cond.methodLink own idx y ∈ wd) (hx : p.tables.exec = Jvm.exec) (hb : c.code = cc) (hml : c.maxLocals = nL) (hown : s.vm.findClass own = some m.cls) (hts : ∀ w ∈ a0 :: wd, w.before args s = true) (hE : EV D ct s) (hV : SV st A s s.heap) (hS : va_S A s.heap H locs) (hM : Met l y (wsy y bz nz rz) (rmW f mc ms lo) (PcW D ct st (.ref b :: As) W0 H.size) (QcW D W0 H.size post) mc ms (va_A W0 H.size)) (hP : va_P D classes ws H) (hD : va_D A ws) (hA : ∀ q : Nat, s.heap.size ≤ q → A q) (isC isR : List Nat) {wr : va_W} (hC : isC.map (fun i => ws[i]?) = W0.map some) (hRr : isR.map (fun i => ws[i]?) = wr.map some) (hnd : va_nd isC = true) (hnr : va_nd isR = true) (hdis : ∀ i ∈ isR, i ∉ isC) (hc : classes[ci]? = some (y.cls, T9, N9)) (hP9 : va_P D classes w9 H) (he : w9[q9]? = some (b, .inr (ci, fs9)))
    (hn : As.length = ar) (hsz : ls.size = nL) (hst : stk = As.reverse ++ .ref b :: rest) (hcat : (rest.map fun v => v.category).sum ≤ 8) (hdg : decode cc pc = .ok (.invokevirtual idx, 3)) (hR1 : f + 1 ≤ R.frames) (hR2 : 8 + (nz + 11) + lo ≤ R.locals) (hcs : cells + mc ≤ R.cells ∧ slots + ms ≤ R.slots) (kk : ∀ (v : Option Value) (W1 : va_W) (H1 : Heap) (locs1 : List Loc), post v W1 → va_P D classes (wr ++ W1) H1 → va_D A (wr ++ W1) → va_S A s.heap H1 locs1 → W p l e R s m args below meth c H1 locs1 (cells + mc) (slots + ms) Q (F0 m (pc + 3) ls (v.toList ++ rest))) : W p l e R s m args below meth c H locs cells slots Q (F0 m pc ls stk) := by
  have hG : GoodIn (a0 :: wd) (wsy y bz nz rz) := gin K.1
  have cb : CallB R s args own idx y bz nz rz (wsy y bz nz rz) (rmW f mc ms lo) mc ms ar := callB_of ar hts hG rfl rfl rfl (hts _ (List.mem_cons_of_mem _ K.2.1)) (hts _ (List.mem_cons_of_mem _ hl)) K.2.2.2 ⟨hR1, hR2⟩
  have hFc := va_free (wc := W0) hD hS hA isC hC
  have hPc : va_P D classes W0 H := fun k q hq => by
    obtain ⟨i, -, h2⟩ := va_in_of isC hC hq
    exact hP i q h2
  have hDc := hD.sub (ws' := W0) isC hnd hC
  have hrec : ∃ cellB : Cell, H[b]? = some cellB ∧ cellB.vm.isStatics = false ∧ s.vm.findClass y.cls = some cellB.cls := va_recv hE.K hP9 hc he
  have hrun : va_Run p l e R s m args below meth c H locs cells slots mc ms (F0 m pc ls stk) rest (QcW D W0 H.size post (Value.ref b :: As).toArray) (va_A W0 H.size) := va_runV (As := As) (b := b) (C := y.cls) (rest := rest) (g := F0 m pc ls stk) (own := own) (Ts := a0 :: wd) (nL := nL) ⟨hx, hb, hml, hown, hts⟩ hM ⟨cb, hts _ (List.mem_cons_of_mem _ K.2.2.1.1), hts _ (List.mem_cons_of_mem _ K.2.2.1.2)⟩ ⟨blW, hrec, fun U hU hW => ⟨rfl, by rw [hU], by rw [hU]; exact hPc, hDc.weaken (fun _ _ _ _ => trivial), hE.moved hW, hV.at hS hFc hU hW.alike⟩⟩ rfl hn hsz hst (by simpa [JFrame.monitorRoom] using hcat) hdg hcs
  intro T hT X
  obtain ⟨v, st₀, t, T', L, h0, X', hL, e1, e2, ⟨⟨r, W1, hv, hp, hP1, hD1⟩, hz, hk⟩, stp⟩ := hrun T hT X
  cases hv
  rw [h0] at hz hk
  rw [← e1] at hP1 hz hk
  obtain ⟨hPj, hDj⟩ := va_join (wr := wr) (w1 := W1) hP hD isC isR hC hRr hnr hdis hk hFc hP1 hD1
  obtain ⟨t2, a1, b1⟩ := kk _ W1 T'.heap (locs ++ L) hp hPj hDj ⟨Nat.le_trans hS.1 hz, fun q h1 h2 => by
      rw [hk q (Nat.lt_of_lt_of_le h1 hS.1) (fun z => h2 (hFc q z))]
      exact hS.2.1 q h1 h2, fun q hq => by
      rcases List.mem_append.mp hq with h | h
      · exact hS.2.2 q h
      · exact hFc _ (hL q h)⟩ T' rfl X'
  exact ⟨t2, stp t2 a1, b1⟩
end QR
