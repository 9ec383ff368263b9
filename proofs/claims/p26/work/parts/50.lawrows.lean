/-! the law's rows: a world of named cells and a tail of cells that no call of a case reaches -/
theorem va_P.left {D : va_G} {cl : List vw_C} {a b : va_W} {H : Heap} (h : va_P D cl (a ++ b) H) : va_P D cl a H := fun k q hq => h k q (by rw [List.getElem?_append_left (List.getElem?_eq_some_iff.mp hq).1]; exact hq)
theorem va_D.left {A : Nat → Prop} {a b : va_W} (h : va_D A (a ++ b)) : va_D A a := h.by id (fun k q hq => by show (a ++ b)[k]? = some q; rw [List.getElem?_append_left (List.getElem?_eq_some_iff.mp hq).1]; exact hq) (fun _ _ _ _ e => e)
theorem va_A.left {a b : va_W} {sz q : Nat} (h : va_A a sz q) : va_A (a ++ b) sz q := by
  rcases h with ⟨k, e, h⟩ | h
  · exact Or.inl ⟨k, e, by rw [List.getElem?_append_left (List.getElem?_eq_some_iff.mp h).1]; exact h⟩
  · exact Or.inr h
section LW
variable {p : Program} {l : Launch} {e : Env} {R : Room} {s : State} {m : MethodId} {args : Array Value} {below : List Frame} {meth : Method} {c : Code} {H : Heap} {locs : List Loc} {cells slots : Nat} {Q : State → Prop}
variable {cc : ByteArray} {pc : Nat} {ls : Array Slot} {rest : List Value} {D : va_G} {A : Nat → Prop} {a : Nat} {ct : Nat → ClassId} {zs : va_W} {H0 : Heap} {mc ms : Nat} {st : Nat → Nat}
/-- behind a run that had part of the named cells -/
theorem q_tail {X W0 wr : va_W} {As rest : List Value} {g : JFrame} {post : Option Value → va_W → Prop} {g1 : JFrame} (hg1 : ∀ v : Option Value, { g with pc := g.pc + 3, stack := v.toList ++ rest } = F0 m (pc + 3) ls (v.toList ++ rest)) (hP : va_P D classes (X ++ zs) H) (hD : va_D A (X ++ zs)) (hS : va_S A s.heap H locs) (hA : ∀ q : Nat, s.heap.size ≤ q → A q) (isC isR : List Nat) (hC : isC.map (fun i => X[i]?) = W0.map some) (hRr : isR.map (fun i => X[i]?) = wr.map some) (hnr : va_nd isR = true) (hdis : ∀ i ∈ isR, i ∉ isC)
    (hrun : va_Run p l e R s m args below meth c H locs cells slots mc ms g rest (QcW D W0 H.size post As.toArray) (va_A W0 H.size))
    (kk : ∀ (v : Option Value) (W1 : va_W) (H1 : Heap) (locs1 : List Loc), post v W1 → va_P D classes ((wr ++ W1) ++ zs) H1 → va_D A ((wr ++ W1) ++ zs) → va_S A s.heap H1 locs1 → W p l e R s m args below meth c H1 locs1 (cells + mc) (slots + ms) Q (F0 m (pc + 3) ls (v.toList ++ rest))) : W p l e R s m args below meth c H locs cells slots Q g := by
  have hFc : ∀ q, va_A W0 H.size q → A q := fun q h => va_freeP hD hS hA isC hC q (va_A.left h)
  intro T hT X
  obtain ⟨v, st₀, t, T', L, h0, X', hL, e1, e2, ⟨⟨r, W1, hv, hp, hP1, hD1⟩, hz, hk⟩, stp⟩ := hrun T hT X
  cases hv
  rw [h0] at hz hk
  rw [← e1] at hP1 hz hk
  obtain ⟨hPj, hDj⟩ := va_joinQ (wr := wr) (w1 := W1) hP hD isC isR hC hRr hnr hdis hk hFc hP1 hD1
  obtain ⟨t2, a1, b1⟩ := kk _ W1 T'.heap (locs ++ L) hp hPj hDj ⟨Nat.le_trans hS.1 hz, fun q h1 h2 => by
      rw [hk q (Nat.lt_of_lt_of_le h1 hS.1) (fun z => h2 (hFc q z))]
      exact hS.2.1 q h1 h2, fun q hq => by
      rcases List.mem_append.mp hq with h | h
      · exact hS.2.2 q h
      · exact hFc _ (hL q h)⟩ T' rfl X'
  rw [← hg1] at a1
  exact ⟨t2, stp t2 a1, b1⟩
/-- a method of the class, called by the law -/
theorem cWVp {y : MethodName} {bz : ByteArray} {nz ar nL idx f lo : Nat} {rz : Option FieldType} {a0 : Cond} {own : String} {As : List Value} {X W0 : va_W} {stk : List Value} {post : Option Value → va_W → Prop} {b : Nat} {ci q9 : Nat} {T9 : u_T} {N9 : Nat} {fs9 : List Value} (K : kV y bz nz rz ar) (hl : Cond.methodLink own idx y ∈ wd) (hx : p.tables.exec = Jvm.exec) (hb : c.code = cc) (hml : c.maxLocals = nL) (hown : s.vm.findClass own = some m.cls) (hts : ∀ w ∈ a0 :: wd, w.before args s = true) (hE : EV D ct s) (hV : SV st A s s.heap) (hS : va_S A s.heap H locs) (hM : Met l y (wsy y bz nz rz) (rmW f mc ms lo) (PcW D ct st (.ref b :: As) W0 H.size) (QcW D W0 H.size post) mc ms (va_A W0 H.size)) (hP : va_P D classes (X ++ zs) H) (hD : va_D A (X ++ zs)) (hA : ∀ q : Nat, s.heap.size ≤ q → A q) (isC isR : List Nat) {wr : va_W} (hC : isC.map (fun i => X[i]?) = W0.map some) (hRr : isR.map (fun i => X[i]?) = wr.map some) (hnd : va_nd isC = true) (hnr : va_nd isR = true) (hdis : ∀ i ∈ isR, i ∉ isC) (hc : classes[ci]? = some (y.cls, T9, N9)) (he : (X ++ zs)[q9]? = some (b, .inr (ci, fs9)))
    (hn : As.length = ar) (hsz : ls.size = nL) (hst : stk = As.reverse ++ .ref b :: rest) (hcat : (rest.map fun v => v.category).sum ≤ 8) (hdg : decode cc pc = .ok (.invokevirtual idx, 3)) (hR1 : f + 1 ≤ R.frames) (hR2 : 8 + (nz + 11) + lo ≤ R.locals) (hcs : cells + mc ≤ R.cells ∧ slots + ms ≤ R.slots) (kk : ∀ (v : Option Value) (W1 : va_W) (H1 : Heap) (locs1 : List Loc), post v W1 → va_P D classes ((wr ++ W1) ++ zs) H1 → va_D A ((wr ++ W1) ++ zs) → va_S A s.heap H1 locs1 → W p l e R s m args below meth c H1 locs1 (cells + mc) (slots + ms) Q (F0 m (pc + 3) ls (v.toList ++ rest))) : W p l e R s m args below meth c H locs cells slots Q (F0 m pc ls stk) := by
  have hG : GoodIn (a0 :: wd) (wsy y bz nz rz) := gin K.1
  have cb : CallB R s args own idx y bz nz rz (wsy y bz nz rz) (rmW f mc ms lo) mc ms ar := callB_of ar hts hG rfl rfl rfl (hts _ (List.mem_cons_of_mem _ K.2.1)) (hts _ (List.mem_cons_of_mem _ hl)) K.2.2.2 ⟨hR1, hR2⟩
  have hFc : ∀ q, va_A W0 H.size q → A q := fun q h => va_freeP hD hS hA isC hC q (va_A.left h)
  have hPc : va_P D classes W0 H := (hP.part isC hC).left
  have hDc : va_D A W0 := (hD.part isC hnd hC).left
  have hrec : ∃ cellB : Cell, H[b]? = some cellB ∧ cellB.vm.isStatics = false ∧ s.vm.findClass y.cls = some cellB.cls := va_recv hE.K hP hc he
  exact q_tail (g := F0 m pc ls stk) (g1 := F0 m pc ls stk) (fun v => rfl) hP hD hS hA isC isR hC hRr hnr hdis (va_runV (As := As) (b := b) (C := y.cls) (rest := rest) (g := F0 m pc ls stk) (own := own) (Ts := a0 :: wd) (nL := nL) ⟨hx, hb, hml, hown, hts⟩ hM ⟨cb, hts _ (List.mem_cons_of_mem _ K.2.2.1.1), hts _ (List.mem_cons_of_mem _ K.2.2.1.2)⟩ ⟨blW, hrec, fun U hU hW => ⟨rfl, by rw [hU], by rw [hU]; exact hPc, hDc.weaken (fun _ _ _ _ => trivial), hE.moved hW, hV.at hS hFc hU hW.alike⟩⟩ rfl hn hsz hst (by simpa [JFrame.monitorRoom] using hcat) hdg hcs) kk
/-- the law's own reader of its script -/
def PcX (b9 L9 : Nat) (xs : Nat → Int32) (av : List Value) : Array Value → State → Prop := fun v U => v = av.toArray ∧ va_X b9 L9 xs U U.heap ∧ b9 < U.heap.size
theorem blX {b9 L9 : Nat} {xs : Nat → Int32} {av : List Value} : FrameBlind (PcX b9 L9 xs av) := fun a U g mk q => ⟨q.1, q.2.1.moved (u := U) (U := U.calling g mk a) (Vm.Alike.refl U.vm), q.2.2⟩
theorem cXS {y : MethodName} {bz : ByteArray} {nz ar nL idx f lo : Nat} {rz : Option FieldType} {a0 : Cond} {own : String} {As : List Value} {b9 L9 : Nat} {xs : Nat → Int32} {stk : List Value} {rv : Value} (K : kS y bz nz rz ar) (hl : Cond.methodLink own idx y ∈ wd) (hx : p.tables.exec = Jvm.exec) (hb : c.code = cc) (hml : c.maxLocals = nL) (hown : s.vm.findClass own = some m.cls) (hts : ∀ w ∈ a0 :: wd, w.before args s = true) (hXs : va_X b9 L9 xs s s.heap) (hbl : b9 < s.heap.size) (hbA : ¬ A b9) (hS : va_S A s.heap H locs) (hM : Met l y (wsy y bz nz rz) (k2_rm f lo) (PcX b9 L9 xs As) (k2_QcV rv) 0 0 (fun _ => False))
    (hn : As.length = ar) (hsz : ls.size = nL) (hst : stk = As.reverse ++ rest) (hcat : (rest.map fun v => v.category).sum ≤ 8) (hdg : decode cc pc = .ok (.invokestatic idx, 3)) (hR1 : f + 1 ≤ R.frames) (hR2 : 8 + (nz + 11) + lo ≤ R.locals) (hcs : cells ≤ R.cells ∧ slots ≤ R.slots) (kk : W p l e R s m args below meth c H locs cells slots Q (F0 m (pc + 3) ls (rv :: rest))) : W p l e R s m args below meth c H locs cells slots Q (F0 m pc ls stk) := by
  have hG : GoodIn (a0 :: wd) (wsy y bz nz rz) := gin K.1
  have cb : CallB R s args own idx y bz nz rz (wsy y bz nz rz) (k2_rm f lo) 0 0 ar := callB_of ar hts hG rfl rfl rfl (hts _ (List.mem_cons_of_mem _ K.2.1)) (hts _ (List.mem_cons_of_mem _ hl)) K.2.2.2 ⟨hR1, hR2⟩
  exact W.callV (va_Run.run (va_runS (As := As) (rest := rest) (g := F0 m pc ls stk) (own := own) (Ts := a0 :: wd) (nL := nL) ⟨hx, hb, hml, hown, hts⟩ hM ⟨cb, hts _ (List.mem_cons_of_mem _ K.2.2.1)⟩ ⟨blX, fun U hU hW => ⟨rfl, by rw [hU]; exact (hXs.kept (hS.2.1 b9 hbl hbA)).moved hW.alike, by rw [hU]; exact Nat.lt_of_lt_of_le hbl hS.1⟩⟩ rfl hn hsz hst (by simpa [JFrame.monitorRoom] using hcat) hdg hcs)) kk
end LW
/-- what holds all along the law: the machine, the law's code, the tables' words, the script, the room -/
def LX (p : Program) (l : Launch) (R : Room) (s : State) (m : MethodId) (c : Code) (b9 L9 : Nat) (xs : Nat → Int32) (D : va_G) (ct : Nat → ClassId) (st : Nat → Nat) (A : Nat → Prop) (a0 : Cond) : Prop :=
  p.tables.exec = Jvm.exec ∧ c.code = code ∧ c.maxLocals = 13 ∧ s.vm.findClass "ShockTubeLaw" = some m.cls ∧ (∀ w ∈ a0 :: wd, w.before #[Value.ref b9] s = true) ∧ EV D ct s ∧ SV st A s s.heap ∧ (∀ q : Nat, s.heap.size ≤ q → A q) ∧ va_X b9 L9 xs s s.heap ∧ b9 < s.heap.size ∧ ¬ A b9 ∧ 10 ≤ R.frames ∧ 402 ≤ R.locals ∧ L9 ≤ 260
def lw (x : Int32) (n : Nat) : Nat := x.toBitVec.toNat % 2 ^ 31 % n
theorem lw_eq {x : Int32} {n : Nat} (hn : 1 ≤ n ∧ n < 2 ^ 31) : (x &&& 2147483647) - (x &&& 2147483647) / nI n * nI n = nI (lw x n) := by
  rw [pk_and x (m := 2147483647) 31 (by decide), pk_rem (Nat.mod_lt _ (by decide)) hn.1 hn.2]
  rfl
def cl (xs : Nat → Int32) (L9 k : Nat) : Int32 := if k < L9 then xs k else 7919 * (nI k + 3) * (nI k + 11)

theorem d_L_cell_0 : decode b_L_cell 0 = .ok (.iload_n 1, 1) := by decide +kernel
theorem d_L_cell_1 : decode b_L_cell 1 = .ok (.aload_n 0, 1) := by decide +kernel
theorem d_L_cell_2 : decode b_L_cell 2 = .ok (.arraylength, 1) := by decide +kernel
theorem d_L_cell_3 : decode b_L_cell 3 = .ok (.if_icmp .ge 9, 3) := by decide +kernel
theorem d_L_cell_6 : decode b_L_cell 6 = .ok (.aload_n 0, 1) := by decide +kernel
theorem d_L_cell_7 : decode b_L_cell 7 = .ok (.iload_n 1, 1) := by decide +kernel
theorem d_L_cell_8 : decode b_L_cell 8 = .ok (.iaload, 1) := by decide +kernel
theorem d_L_cell_9 : decode b_L_cell 9 = .ok (.goto 15, 3) := by decide +kernel
theorem d_L_cell_12 : decode b_L_cell 12 = .ok (.sipush 7919, 3) := by decide +kernel
theorem d_L_cell_15 : decode b_L_cell 15 = .ok (.iload_n 1, 1) := by decide +kernel
theorem d_L_cell_16 : decode b_L_cell 16 = .ok (.iconst 3, 1) := by decide +kernel
theorem d_L_cell_17 : decode b_L_cell 17 = .ok (.iadd, 1) := by decide +kernel
theorem d_L_cell_18 : decode b_L_cell 18 = .ok (.imul, 1) := by decide +kernel
theorem d_L_cell_19 : decode b_L_cell 19 = .ok (.iload_n 1, 1) := by decide +kernel
theorem d_L_cell_20 : decode b_L_cell 20 = .ok (.bipush 11, 2) := by decide +kernel
theorem d_L_cell_22 : decode b_L_cell 22 = .ok (.iadd, 1) := by decide +kernel
theorem d_L_cell_23 : decode b_L_cell 23 = .ok (.imul, 1) := by decide +kernel
theorem d_L_cell_24 : decode b_L_cell 24 = .ok (.ireturn, 1) := by decide +kernel
theorem d_L_low_0 : decode b_L_low 0 = .ok (.iload_n 0, 1) := by decide +kernel
theorem d_L_low_1 : decode b_L_low 1 = .ok (.ldc 7, 2) := by decide +kernel
theorem d_L_low_3 : decode b_L_low 3 = .ok (.iand, 1) := by decide +kernel
theorem d_L_low_4 : decode b_L_low 4 = .ok (.iload_n 1, 1) := by decide +kernel
theorem d_L_low_5 : decode b_L_low 5 = .ok (.irem, 1) := by decide +kernel
theorem d_L_low_6 : decode b_L_low 6 = .ok (.ireturn, 1) := by decide +kernel
theorem d_L_law_0 : decode code 0 = .ok (.new 8, 3) := by decide +kernel
theorem d_L_law_3 : decode code 3 = .ok (.dup, 1) := by decide +kernel
theorem d_L_law_4 : decode code 4 = .ok (.invokespecial 10, 3) := by decide +kernel
theorem d_L_law_7 : decode code 7 = .ok (.astore_n 1, 1) := by decide +kernel
theorem d_L_law_8 : decode code 8 = .ok (.aload_n 0, 1) := by decide +kernel
theorem d_L_law_9 : decode code 9 = .ok (.iconst 0, 1) := by decide +kernel
theorem d_L_law_10 : decode code 10 = .ok (.invokestatic 11, 3) := by decide +kernel
theorem d_L_law_13 : decode code 13 = .ok (.istore_n 2, 1) := by decide +kernel
theorem d_L_law_14 : decode code 14 = .ok (.iconst 2, 1) := by decide +kernel
theorem d_L_law_15 : decode code 15 = .ok (.iload_n 2, 1) := by decide +kernel
theorem d_L_law_16 : decode code 16 = .ok (.bipush 8, 2) := by decide +kernel
theorem d_L_law_18 : decode code 18 = .ok (.invokestatic 17, 3) := by decide +kernel
theorem d_L_law_21 : decode code 21 = .ok (.iadd, 1) := by decide +kernel
theorem d_L_law_22 : decode code 22 = .ok (.istore_n 3, 1) := by decide +kernel
theorem d_L_law_23 : decode code 23 = .ok (.aload_n 1, 1) := by decide +kernel
theorem d_L_law_24 : decode code 24 = .ok (.iload_n 3, 1) := by decide +kernel
theorem d_L_law_25 : decode code 25 = .ok (.iload_n 2, 1) := by decide +kernel
theorem d_L_law_26 : decode code 26 = .ok (.iconst 3, 1) := by decide +kernel
theorem d_L_law_27 : decode code 27 = .ok (.ishr, 1) := by decide +kernel
theorem d_L_law_28 : decode code 28 = .ok (.iconst 2, 1) := by decide +kernel
theorem d_L_law_29 : decode code 29 = .ok (.invokestatic 17, 3) := by decide +kernel
theorem d_L_law_32 : decode code 32 = .ok (.iload_n 2, 1) := by decide +kernel
theorem d_L_law_33 : decode code 33 = .ok (.iconst 4, 1) := by decide +kernel
theorem d_L_law_34 : decode code 34 = .ok (.ishr, 1) := by decide +kernel
theorem d_L_law_35 : decode code 35 = .ok (.iconst 2, 1) := by decide +kernel
theorem d_L_law_36 : decode code 36 = .ok (.invokestatic 17, 3) := by decide +kernel
theorem d_L_law_39 : decode code 39 = .ok (.invokevirtual 21, 3) := by decide +kernel
theorem d_L_law_42 : decode code 42 = .ok (.aload_n 1, 1) := by decide +kernel
theorem d_L_law_43 : decode code 43 = .ok (.iload_n 2, 1) := by decide +kernel
theorem d_L_law_44 : decode code 44 = .ok (.iconst 5, 1) := by decide +kernel
theorem d_L_law_45 : decode code 45 = .ok (.ishr, 1) := by decide +kernel
theorem d_L_law_46 : decode code 46 = .ok (.iconst 3, 1) := by decide +kernel
theorem d_L_law_47 : decode code 47 = .ok (.invokestatic 17, 3) := by decide +kernel
theorem d_L_law_50 : decode code 50 = .ok (.invokevirtual 25, 3) := by decide +kernel
theorem d_L_law_53 : decode code 53 = .ok (.aload_n 1, 1) := by decide +kernel
theorem d_L_law_54 : decode code 54 = .ok (.iload_n 2, 1) := by decide +kernel
theorem d_L_law_55 : decode code 55 = .ok (.bipush 7, 2) := by decide +kernel
theorem d_L_law_57 : decode code 57 = .ok (.ishr, 1) := by decide +kernel
theorem d_L_law_58 : decode code 58 = .ok (.sipush 400, 3) := by decide +kernel
theorem d_L_law_61 : decode code 61 = .ok (.invokestatic 17, 3) := by decide +kernel
theorem d_L_law_64 : decode code 64 = .ok (.iload_n 2, 1) := by decide +kernel
theorem d_L_law_65 : decode code 65 = .ok (.bipush 9, 2) := by decide +kernel
theorem d_L_law_67 : decode code 67 = .ok (.ishr, 1) := by decide +kernel
theorem d_L_law_68 : decode code 68 = .ok (.bipush 101, 2) := by decide +kernel
theorem d_L_law_70 : decode code 70 = .ok (.invokestatic 17, 3) := by decide +kernel
theorem d_L_law_73 : decode code 73 = .ok (.iload_n 2, 1) := by decide +kernel
theorem d_L_law_74 : decode code 74 = .ok (.bipush 11, 2) := by decide +kernel
theorem d_L_law_76 : decode code 76 = .ok (.ishr, 1) := by decide +kernel
theorem d_L_law_77 : decode code 77 = .ok (.bipush 30, 2) := by decide +kernel
theorem d_L_law_79 : decode code 79 = .ok (.invokestatic 17, 3) := by decide +kernel
theorem d_L_law_82 : decode code 82 = .ok (.invokevirtual 29, 3) := by decide +kernel
theorem d_L_law_85 : decode code 85 = .ok (.aload_n 1, 1) := by decide +kernel
theorem d_L_law_86 : decode code 86 = .ok (.iconst 1, 1) := by decide +kernel
theorem d_L_law_87 : decode code 87 = .ok (.iload_n 2, 1) := by decide +kernel
theorem d_L_law_88 : decode code 88 = .ok (.bipush 8, 2) := by decide +kernel
theorem d_L_law_90 : decode code 90 = .ok (.ishr, 1) := by decide +kernel
theorem d_L_law_91 : decode code 91 = .ok (.bipush 10, 2) := by decide +kernel
theorem d_L_law_93 : decode code 93 = .ok (.invokestatic 17, 3) := by decide +kernel
theorem d_L_law_96 : decode code 96 = .ok (.iadd, 1) := by decide +kernel
theorem d_L_law_97 : decode code 97 = .ok (.iconst 1, 1) := by decide +kernel
theorem d_L_law_98 : decode code 98 = .ok (.iload_n 2, 1) := by decide +kernel
theorem d_L_law_99 : decode code 99 = .ok (.bipush 10, 2) := by decide +kernel
theorem d_L_law_101 : decode code 101 = .ok (.ishr, 1) := by decide +kernel
theorem d_L_law_102 : decode code 102 = .ok (.bipush 50, 2) := by decide +kernel
theorem d_L_law_104 : decode code 104 = .ok (.invokestatic 17, 3) := by decide +kernel
theorem d_L_law_107 : decode code 107 = .ok (.iadd, 1) := by decide +kernel
theorem d_L_law_108 : decode code 108 = .ok (.iload_n 2, 1) := by decide +kernel
theorem d_L_law_109 : decode code 109 = .ok (.bipush 12, 2) := by decide +kernel
theorem d_L_law_111 : decode code 111 = .ok (.ishr, 1) := by decide +kernel
theorem d_L_law_112 : decode code 112 = .ok (.bipush 21, 2) := by decide +kernel
theorem d_L_law_114 : decode code 114 = .ok (.invokestatic 17, 3) := by decide +kernel
theorem d_L_law_117 : decode code 117 = .ok (.iconst 1, 1) := by decide +kernel
theorem d_L_law_118 : decode code 118 = .ok (.iload_n 2, 1) := by decide +kernel
theorem d_L_law_119 : decode code 119 = .ok (.bipush 14, 2) := by decide +kernel
theorem d_L_law_121 : decode code 121 = .ok (.ishr, 1) := by decide +kernel
theorem d_L_law_122 : decode code 122 = .ok (.bipush 50, 2) := by decide +kernel
theorem d_L_law_124 : decode code 124 = .ok (.invokestatic 17, 3) := by decide +kernel
theorem d_L_law_127 : decode code 127 = .ok (.iadd, 1) := by decide +kernel
theorem d_L_law_128 : decode code 128 = .ok (.iload_n 2, 1) := by decide +kernel
theorem d_L_law_129 : decode code 129 = .ok (.bipush 6, 2) := by decide +kernel
theorem d_L_law_131 : decode code 131 = .ok (.ishr, 1) := by decide +kernel
theorem d_L_law_132 : decode code 132 = .ok (.sipush 2001, 3) := by decide +kernel
theorem d_L_law_135 : decode code 135 = .ok (.invokestatic 17, 3) := by decide +kernel
theorem d_L_law_138 : decode code 138 = .ok (.iload_n 2, 1) := by decide +kernel
theorem d_L_law_139 : decode code 139 = .ok (.bipush 9, 2) := by decide +kernel
theorem d_L_law_141 : decode code 141 = .ok (.ishr, 1) := by decide +kernel
theorem d_L_law_142 : decode code 142 = .ok (.bipush 100, 2) := by decide +kernel
theorem d_L_law_144 : decode code 144 = .ok (.invokestatic 17, 3) := by decide +kernel
theorem d_L_law_147 : decode code 147 = .ok (.invokevirtual 32, 3) := by decide +kernel
theorem d_L_law_150 : decode code 150 = .ok (.aload_n 0, 1) := by decide +kernel
theorem d_L_law_151 : decode code 151 = .ok (.arraylength, 1) := by decide +kernel
theorem d_L_law_152 : decode code 152 = .ok (.bipush 80, 2) := by decide +kernel
theorem d_L_law_154 : decode code 154 = .ok (.if_icmp .ge 8, 3) := by decide +kernel
theorem d_L_law_157 : decode code 157 = .ok (.aload_n 0, 1) := by decide +kernel
theorem d_L_law_158 : decode code 158 = .ok (.arraylength, 1) := by decide +kernel
theorem d_L_law_159 : decode code 159 = .ok (.goto 5, 3) := by decide +kernel
theorem d_L_law_162 : decode code 162 = .ok (.bipush 80, 2) := by decide +kernel
theorem d_L_law_164 : decode code 164 = .ok (.istore 4, 2) := by decide +kernel
theorem d_L_law_166 : decode code 166 = .ok (.iconst 1, 1) := by decide +kernel
theorem d_L_law_167 : decode code 167 = .ok (.istore 5, 2) := by decide +kernel
theorem d_L_law_169 : decode code 169 = .ok (.iconst 0, 1) := by decide +kernel
theorem d_L_law_170 : decode code 170 = .ok (.istore 6, 2) := by decide +kernel
theorem d_L_law_172 : decode code 172 = .ok (.iconst 1, 1) := by decide +kernel
theorem d_L_law_173 : decode code 173 = .ok (.istore 7, 2) := by decide +kernel
theorem d_L_law_175 : decode code 175 = .ok (.iload 7, 2) := by decide +kernel
theorem d_L_law_177 : decode code 177 = .ok (.iload 4, 2) := by decide +kernel
theorem d_L_law_179 : decode code 179 = .ok (.if_icmp .ge 598, 3) := by decide +kernel
theorem d_L_law_182 : decode code 182 = .ok (.iload 5, 2) := by decide +kernel
theorem d_L_law_184 : decode code 184 = .ok (.ifCond .eq 593, 3) := by decide +kernel
theorem d_L_law_187 : decode code 187 = .ok (.aload_n 0, 1) := by decide +kernel
theorem d_L_law_188 : decode code 188 = .ok (.iload 7, 2) := by decide +kernel
theorem d_L_law_190 : decode code 190 = .ok (.invokestatic 11, 3) := by decide +kernel
theorem d_L_law_193 : decode code 193 = .ok (.istore 8, 2) := by decide +kernel
theorem d_L_law_195 : decode code 195 = .ok (.iload 8, 2) := by decide +kernel
theorem d_L_law_197 : decode code 197 = .ok (.bipush 10, 2) := by decide +kernel
theorem d_L_law_199 : decode code 199 = .ok (.invokestatic 17, 3) := by decide +kernel
theorem d_L_law_202 : decode code 202 = .ok (.istore 9, 2) := by decide +kernel
theorem d_L_law_204 : decode code 204 = .ok (.iload 9, 2) := by decide +kernel
theorem d_L_law_206 : decode code 206 = .ok (.iconst 3, 1) := by decide +kernel
theorem d_L_law_207 : decode code 207 = .ok (.if_icmp .ge 83, 3) := by decide +kernel
theorem d_L_law_210 : decode code 210 = .ok (.sipush 200, 3) := by decide +kernel
theorem d_L_law_213 : decode code 213 = .ok (.iload 8, 2) := by decide +kernel
theorem d_L_law_215 : decode code 215 = .ok (.iconst 4, 1) := by decide +kernel
theorem d_L_law_216 : decode code 216 = .ok (.ishr, 1) := by decide +kernel
theorem d_L_law_217 : decode code 217 = .ok (.sipush 4000, 3) := by decide +kernel
theorem d_L_law_220 : decode code 220 = .ok (.invokestatic 17, 3) := by decide +kernel
theorem d_L_law_223 : decode code 223 = .ok (.iadd, 1) := by decide +kernel
theorem d_L_law_224 : decode code 224 = .ok (.istore 10, 2) := by decide +kernel
theorem d_L_law_226 : decode code 226 = .ok (.iload 8, 2) := by decide +kernel
theorem d_L_law_228 : decode code 228 = .ok (.bipush 8, 2) := by decide +kernel
theorem d_L_law_230 : decode code 230 = .ok (.ishr, 1) := by decide +kernel
theorem d_L_law_231 : decode code 231 = .ok (.sipush 2001, 3) := by decide +kernel
theorem d_L_law_234 : decode code 234 = .ok (.invokestatic 17, 3) := by decide +kernel
theorem d_L_law_237 : decode code 237 = .ok (.sipush 1000, 3) := by decide +kernel
theorem d_L_law_240 : decode code 240 = .ok (.isub, 1) := by decide +kernel
theorem d_L_law_241 : decode code 241 = .ok (.istore 11, 2) := by decide +kernel
theorem d_L_law_243 : decode code 243 = .ok (.aload_n 1, 1) := by decide +kernel
theorem d_L_law_244 : decode code 244 = .ok (.iload 8, 2) := by decide +kernel
theorem d_L_law_246 : decode code 246 = .ok (.bipush 6, 2) := by decide +kernel
theorem d_L_law_248 : decode code 248 = .ok (.ishr, 1) := by decide +kernel
theorem d_L_law_249 : decode code 249 = .ok (.iload_n 3, 1) := by decide +kernel
theorem d_L_law_250 : decode code 250 = .ok (.invokestatic 17, 3) := by decide +kernel
theorem d_L_law_253 : decode code 253 = .ok (.iload 10, 2) := by decide +kernel
theorem d_L_law_255 : decode code 255 = .ok (.iload 11, 2) := by decide +kernel
theorem d_L_law_257 : decode code 257 = .ok (.sipush 6000, 3) := by decide +kernel
theorem d_L_law_260 : decode code 260 = .ok (.iload 8, 2) := by decide +kernel
theorem d_L_law_262 : decode code 262 = .ok (.bipush 9, 2) := by decide +kernel
theorem d_L_law_264 : decode code 264 = .ok (.ishr, 1) := by decide +kernel
theorem d_L_law_265 : decode code 265 = .ok (.sipush 20000, 3) := by decide +kernel
theorem d_L_law_268 : decode code 268 = .ok (.invokestatic 17, 3) := by decide +kernel
theorem d_L_law_271 : decode code 271 = .ok (.iadd, 1) := by decide +kernel
theorem d_L_law_272 : decode code 272 = .ok (.iload 8, 2) := by decide +kernel
theorem d_L_law_274 : decode code 274 = .ok (.bipush 11, 2) := by decide +kernel
theorem d_L_law_276 : decode code 276 = .ok (.ishr, 1) := by decide +kernel
theorem d_L_law_277 : decode code 277 = .ok (.iload 10, 2) := by decide +kernel
theorem d_L_law_279 : decode code 279 = .ok (.iconst 1, 1) := by decide +kernel
theorem d_L_law_280 : decode code 280 = .ok (.iadd, 1) := by decide +kernel
theorem d_L_law_281 : decode code 281 = .ok (.invokestatic 17, 3) := by decide +kernel
theorem d_L_law_284 : decode code 284 = .ok (.invokevirtual 36, 3) := by decide +kernel
theorem d_L_law_287 : decode code 287 = .ok (.goto 363, 3) := by decide +kernel
theorem d_L_law_290 : decode code 290 = .ok (.iload 9, 2) := by decide +kernel
theorem d_L_law_292 : decode code 292 = .ok (.bipush 6, 2) := by decide +kernel
theorem d_L_law_294 : decode code 294 = .ok (.if_icmp .ge 74, 3) := by decide +kernel
theorem d_L_law_297 : decode code 297 = .ok (.iconst 1, 1) := by decide +kernel
theorem d_L_law_298 : decode code 298 = .ok (.iload 8, 2) := by decide +kernel
theorem d_L_law_300 : decode code 300 = .ok (.iconst 4, 1) := by decide +kernel
theorem d_L_law_301 : decode code 301 = .ok (.ishr, 1) := by decide +kernel
theorem d_L_law_302 : decode code 302 = .ok (.bipush 6, 2) := by decide +kernel
theorem d_L_law_304 : decode code 304 = .ok (.invokestatic 17, 3) := by decide +kernel
theorem d_L_law_307 : decode code 307 = .ok (.iadd, 1) := by decide +kernel
theorem d_L_law_308 : decode code 308 = .ok (.istore 10, 2) := by decide +kernel
theorem d_L_law_310 : decode code 310 = .ok (.aload_n 1, 1) := by decide +kernel
theorem d_L_law_311 : decode code 311 = .ok (.invokevirtual 39, 3) := by decide +kernel
theorem d_L_law_314 : decode code 314 = .ok (.iload 10, 2) := by decide +kernel
theorem d_L_law_316 : decode code 316 = .ok (.iadd, 1) := by decide +kernel
theorem d_L_law_317 : decode code 317 = .ok (.sipush 300, 3) := by decide +kernel
theorem d_L_law_320 : decode code 320 = .ok (.if_icmp .gt 45, 3) := by decide +kernel
theorem d_L_law_323 : decode code 323 = .ok (.aload_n 1, 1) := by decide +kernel
theorem d_L_law_324 : decode code 324 = .ok (.invokevirtual 39, 3) := by decide +kernel
theorem d_L_law_327 : decode code 327 = .ok (.istore 11, 2) := by decide +kernel
theorem d_L_law_329 : decode code 329 = .ok (.aload_n 1, 1) := by decide +kernel
theorem d_L_law_330 : decode code 330 = .ok (.iconst 1, 1) := by decide +kernel
theorem d_L_law_331 : decode code 331 = .ok (.iload 8, 2) := by decide +kernel
theorem d_L_law_333 : decode code 333 = .ok (.bipush 7, 2) := by decide +kernel
theorem d_L_law_335 : decode code 335 = .ok (.ishr, 1) := by decide +kernel
theorem d_L_law_336 : decode code 336 = .ok (.sipush 200, 3) := by decide +kernel
theorem d_L_law_339 : decode code 339 = .ok (.invokestatic 17, 3) := by decide +kernel
theorem d_L_law_342 : decode code 342 = .ok (.iadd, 1) := by decide +kernel
theorem d_L_law_343 : decode code 343 = .ok (.iload 10, 2) := by decide +kernel
theorem d_L_law_345 : decode code 345 = .ok (.invokevirtual 43, 3) := by decide +kernel
theorem d_L_law_348 : decode code 348 = .ok (.aload_n 1, 1) := by decide +kernel
theorem d_L_law_349 : decode code 349 = .ok (.invokevirtual 39, 3) := by decide +kernel
theorem d_L_law_352 : decode code 352 = .ok (.iload 11, 2) := by decide +kernel
theorem d_L_law_354 : decode code 354 = .ok (.isub, 1) := by decide +kernel
theorem d_L_law_355 : decode code 355 = .ok (.if_icmp .ne 7, 3) := by decide +kernel
theorem d_L_law_358 : decode code 358 = .ok (.iconst 1, 1) := by decide +kernel
theorem d_L_law_359 : decode code 359 = .ok (.goto 4, 3) := by decide +kernel
theorem d_L_law_362 : decode code 362 = .ok (.iconst 0, 1) := by decide +kernel
theorem d_L_law_363 : decode code 363 = .ok (.istore 5, 2) := by decide +kernel
theorem d_L_law_365 : decode code 365 = .ok (.goto 285, 3) := by decide +kernel
theorem d_L_law_368 : decode code 368 = .ok (.iload 9, 2) := by decide +kernel
theorem d_L_law_370 : decode code 370 = .ok (.bipush 6, 2) := by decide +kernel
theorem d_L_law_372 : decode code 372 = .ok (.if_icmp .ne 80, 3) := by decide +kernel
theorem d_L_law_375 : decode code 375 = .ok (.iload 6, 2) := by decide +kernel
theorem d_L_law_377 : decode code 377 = .ok (.bipush 8, 2) := by decide +kernel
theorem d_L_law_379 : decode code 379 = .ok (.if_icmp .ge 73, 3) := by decide +kernel
theorem d_L_law_382 : decode code 382 = .ok (.aload_n 1, 1) := by decide +kernel
theorem d_L_law_383 : decode code 383 = .ok (.iload 8, 2) := by decide +kernel
theorem d_L_law_385 : decode code 385 = .ok (.iconst 4, 1) := by decide +kernel
theorem d_L_law_386 : decode code 386 = .ok (.ishr, 1) := by decide +kernel
theorem d_L_law_387 : decode code 387 = .ok (.iconst 3, 1) := by decide +kernel
theorem d_L_law_388 : decode code 388 = .ok (.invokestatic 17, 3) := by decide +kernel
theorem d_L_law_391 : decode code 391 = .ok (.iload 8, 2) := by decide +kernel
theorem d_L_law_393 : decode code 393 = .ok (.bipush 6, 2) := by decide +kernel
theorem d_L_law_395 : decode code 395 = .ok (.ishr, 1) := by decide +kernel
theorem d_L_law_396 : decode code 396 = .ok (.ldc 46, 2) := by decide +kernel
theorem d_L_law_398 : decode code 398 = .ok (.invokestatic 17, 3) := by decide +kernel
theorem d_L_law_401 : decode code 401 = .ok (.iload 8, 2) := by decide +kernel
theorem d_L_law_403 : decode code 403 = .ok (.bipush 9, 2) := by decide +kernel
theorem d_L_law_405 : decode code 405 = .ok (.ishr, 1) := by decide +kernel
theorem d_L_law_406 : decode code 406 = .ok (.sipush 1801, 3) := by decide +kernel
theorem d_L_law_409 : decode code 409 = .ok (.invokestatic 17, 3) := by decide +kernel
theorem d_L_law_412 : decode code 412 = .ok (.sipush 900, 3) := by decide +kernel
theorem d_L_law_415 : decode code 415 = .ok (.isub, 1) := by decide +kernel
theorem d_L_law_416 : decode code 416 = .ok (.iconst 1, 1) := by decide +kernel
theorem d_L_law_417 : decode code 417 = .ok (.iload 8, 2) := by decide +kernel
theorem d_L_law_419 : decode code 419 = .ok (.iconst 5, 1) := by decide +kernel
theorem d_L_law_420 : decode code 420 = .ok (.ishr, 1) := by decide +kernel
theorem d_L_law_421 : decode code 421 = .ok (.sipush 900, 3) := by decide +kernel
theorem d_L_law_424 : decode code 424 = .ok (.invokestatic 17, 3) := by decide +kernel
theorem d_L_law_427 : decode code 427 = .ok (.iadd, 1) := by decide +kernel
theorem d_L_law_428 : decode code 428 = .ok (.invokevirtual 47, 3) := by decide +kernel
theorem d_L_law_431 : decode code 431 = .ok (.iload 6, 2) := by decide +kernel
theorem d_L_law_433 : decode code 433 = .ok (.if_icmp .gt 7, 3) := by decide +kernel
theorem d_L_law_436 : decode code 436 = .ok (.iconst 1, 1) := by decide +kernel
theorem d_L_law_437 : decode code 437 = .ok (.goto 4, 3) := by decide +kernel
theorem d_L_law_440 : decode code 440 = .ok (.iconst 0, 1) := by decide +kernel
theorem d_L_law_441 : decode code 441 = .ok (.istore 5, 2) := by decide +kernel
theorem d_L_law_443 : decode code 443 = .ok (.aload_n 1, 1) := by decide +kernel
theorem d_L_law_444 : decode code 444 = .ok (.invokevirtual 51, 3) := by decide +kernel
theorem d_L_law_447 : decode code 447 = .ok (.istore 6, 2) := by decide +kernel
theorem d_L_law_449 : decode code 449 = .ok (.goto 201, 3) := by decide +kernel
theorem d_L_law_452 : decode code 452 = .ok (.iload 9, 2) := by decide +kernel
theorem d_L_law_454 : decode code 454 = .ok (.bipush 7, 2) := by decide +kernel
theorem d_L_law_456 : decode code 456 = .ok (.if_icmp .ne 46, 3) := by decide +kernel
theorem d_L_law_459 : decode code 459 = .ok (.aload_n 1, 1) := by decide +kernel
theorem d_L_law_460 : decode code 460 = .ok (.iconst 1, 1) := by decide +kernel
theorem d_L_law_461 : decode code 461 = .ok (.iload 8, 2) := by decide +kernel
theorem d_L_law_463 : decode code 463 = .ok (.iconst 4, 1) := by decide +kernel
theorem d_L_law_464 : decode code 464 = .ok (.ishr, 1) := by decide +kernel
theorem d_L_law_465 : decode code 465 = .ok (.bipush 20, 2) := by decide +kernel
theorem d_L_law_467 : decode code 467 = .ok (.invokestatic 17, 3) := by decide +kernel
theorem d_L_law_470 : decode code 470 = .ok (.iadd, 1) := by decide +kernel
theorem d_L_law_471 : decode code 471 = .ok (.invokevirtual 54, 3) := by decide +kernel
theorem d_L_law_474 : decode code 474 = .ok (.istore 6, 2) := by decide +kernel
theorem d_L_law_476 : decode code 476 = .ok (.iload 6, 2) := by decide +kernel
theorem d_L_law_478 : decode code 478 = .ok (.aload_n 1, 1) := by decide +kernel
theorem d_L_law_479 : decode code 479 = .ok (.invokevirtual 51, 3) := by decide +kernel
theorem d_L_law_482 : decode code 482 = .ok (.if_icmp .ne 14, 3) := by decide +kernel
theorem d_L_law_485 : decode code 485 = .ok (.iload 6, 2) := by decide +kernel
theorem d_L_law_487 : decode code 487 = .ok (.bipush 8, 2) := by decide +kernel
theorem d_L_law_489 : decode code 489 = .ok (.if_icmp .gt 7, 3) := by decide +kernel
theorem d_L_law_492 : decode code 492 = .ok (.iconst 1, 1) := by decide +kernel
theorem d_L_law_493 : decode code 493 = .ok (.goto 4, 3) := by decide +kernel
theorem d_L_law_496 : decode code 496 = .ok (.iconst 0, 1) := by decide +kernel
theorem d_L_law_497 : decode code 497 = .ok (.istore 5, 2) := by decide +kernel
theorem d_L_law_499 : decode code 499 = .ok (.goto 151, 3) := by decide +kernel
theorem d_L_law_502 : decode code 502 = .ok (.iload 9, 2) := by decide +kernel
theorem d_L_law_504 : decode code 504 = .ok (.bipush 8, 2) := by decide +kernel
theorem d_L_law_506 : decode code 506 = .ok (.if_icmp .ne 63, 3) := by decide +kernel
theorem d_L_law_509 : decode code 509 = .ok (.aload_n 1, 1) := by decide +kernel
theorem d_L_law_510 : decode code 510 = .ok (.iload 8, 2) := by decide +kernel
theorem d_L_law_512 : decode code 512 = .ok (.iconst 4, 1) := by decide +kernel
theorem d_L_law_513 : decode code 513 = .ok (.ishr, 1) := by decide +kernel
theorem d_L_law_514 : decode code 514 = .ok (.bipush 101, 2) := by decide +kernel
theorem d_L_law_516 : decode code 516 = .ok (.invokestatic 17, 3) := by decide +kernel
theorem d_L_law_519 : decode code 519 = .ok (.invokevirtual 58, 3) := by decide +kernel
theorem d_L_law_522 : decode code 522 = .ok (.pop, 1) := by decide +kernel
theorem d_L_law_523 : decode code 523 = .ok (.aload_n 1, 1) := by decide +kernel
theorem d_L_law_524 : decode code 524 = .ok (.iconst 1, 1) := by decide +kernel
theorem d_L_law_525 : decode code 525 = .ok (.iload 8, 2) := by decide +kernel
theorem d_L_law_527 : decode code 527 = .ok (.bipush 6, 2) := by decide +kernel
theorem d_L_law_529 : decode code 529 = .ok (.ishr, 1) := by decide +kernel
theorem d_L_law_530 : decode code 530 = .ok (.bipush 10, 2) := by decide +kernel
theorem d_L_law_532 : decode code 532 = .ok (.invokestatic 17, 3) := by decide +kernel
theorem d_L_law_535 : decode code 535 = .ok (.iadd, 1) := by decide +kernel
theorem d_L_law_536 : decode code 536 = .ok (.invokevirtual 61, 3) := by decide +kernel
theorem d_L_law_539 : decode code 539 = .ok (.bipush 10, 2) := by decide +kernel
theorem d_L_law_541 : decode code 541 = .ok (.if_icmp .gt 22, 3) := by decide +kernel
theorem d_L_law_544 : decode code 544 = .ok (.aload_n 1, 1) := by decide +kernel
theorem d_L_law_545 : decode code 545 = .ok (.iconst 0, 1) := by decide +kernel
theorem d_L_law_546 : decode code 546 = .ok (.iconst 3, 1) := by decide +kernel
theorem d_L_law_547 : decode code 547 = .ok (.invokevirtual 64, 3) := by decide +kernel
theorem d_L_law_550 : decode code 550 = .ok (.aload_n 1, 1) := by decide +kernel
theorem d_L_law_551 : decode code 551 = .ok (.iconst 0, 1) := by decide +kernel
theorem d_L_law_552 : decode code 552 = .ok (.iconst 0, 1) := by decide +kernel
theorem d_L_law_553 : decode code 553 = .ok (.invokevirtual 64, 3) := by decide +kernel
theorem d_L_law_556 : decode code 556 = .ok (.if_icmp .lt 7, 3) := by decide +kernel
theorem d_L_law_559 : decode code 559 = .ok (.iconst 1, 1) := by decide +kernel
theorem d_L_law_560 : decode code 560 = .ok (.goto 4, 3) := by decide +kernel
theorem d_L_law_563 : decode code 563 = .ok (.iconst 0, 1) := by decide +kernel
theorem d_L_law_564 : decode code 564 = .ok (.istore 5, 2) := by decide +kernel
theorem d_L_law_566 : decode code 566 = .ok (.goto 84, 3) := by decide +kernel
theorem d_L_law_569 : decode code 569 = .ok (.iload 8, 2) := by decide +kernel
theorem d_L_law_571 : decode code 571 = .ok (.iconst 4, 1) := by decide +kernel
theorem d_L_law_572 : decode code 572 = .ok (.ishr, 1) := by decide +kernel
theorem d_L_law_573 : decode code 573 = .ok (.iconst 4, 1) := by decide +kernel
theorem d_L_law_574 : decode code 574 = .ok (.invokestatic 17, 3) := by decide +kernel
theorem d_L_law_577 : decode code 577 = .ok (.istore 10, 2) := by decide +kernel
theorem d_L_law_579 : decode code 579 = .ok (.aload_n 1, 1) := by decide +kernel
theorem d_L_law_580 : decode code 580 = .ok (.iload 10, 2) := by decide +kernel
theorem d_L_law_582 : decode code 582 = .ok (.invokevirtual 67, 3) := by decide +kernel
theorem d_L_law_585 : decode code 585 = .ok (.aload_n 1, 1) := by decide +kernel
theorem d_L_law_586 : decode code 586 = .ok (.iconst 0, 1) := by decide +kernel
theorem d_L_law_587 : decode code 587 = .ok (.iconst 0, 1) := by decide +kernel
theorem d_L_law_588 : decode code 588 = .ok (.invokevirtual 70, 3) := by decide +kernel
theorem d_L_law_591 : decode code 591 = .ok (.istore 11, 2) := by decide +kernel
theorem d_L_law_593 : decode code 593 = .ok (.aload_n 1, 1) := by decide +kernel
theorem d_L_law_594 : decode code 594 = .ok (.invokevirtual 39, 3) := by decide +kernel
theorem d_L_law_597 : decode code 597 = .ok (.istore 12, 2) := by decide +kernel
theorem d_L_law_599 : decode code 599 = .ok (.iload 12, 2) := by decide +kernel
theorem d_L_law_601 : decode code 601 = .ok (.iconst 3, 1) := by decide +kernel
theorem d_L_law_602 : decode code 602 = .ok (.iadd, 1) := by decide +kernel
theorem d_L_law_603 : decode code 603 = .ok (.sipush 300, 3) := by decide +kernel
theorem d_L_law_606 : decode code 606 = .ok (.if_icmp .gt 11, 3) := by decide +kernel
theorem d_L_law_609 : decode code 609 = .ok (.aload_n 1, 1) := by decide +kernel
theorem d_L_law_610 : decode code 610 = .ok (.bipush 7, 2) := by decide +kernel
theorem d_L_law_612 : decode code 612 = .ok (.iconst 3, 1) := by decide +kernel
theorem d_L_law_613 : decode code 613 = .ok (.invokevirtual 43, 3) := by decide +kernel
theorem d_L_law_616 : decode code 616 = .ok (.pop, 1) := by decide +kernel
theorem d_L_law_617 : decode code 617 = .ok (.aload_n 1, 1) := by decide +kernel
theorem d_L_law_618 : decode code 618 = .ok (.iload 10, 2) := by decide +kernel
theorem d_L_law_620 : decode code 620 = .ok (.invokevirtual 73, 3) := by decide +kernel
theorem d_L_law_623 : decode code 623 = .ok (.aload_n 1, 1) := by decide +kernel
theorem d_L_law_624 : decode code 624 = .ok (.invokevirtual 39, 3) := by decide +kernel
theorem d_L_law_627 : decode code 627 = .ok (.iload 12, 2) := by decide +kernel
theorem d_L_law_629 : decode code 629 = .ok (.if_icmp .ne 18, 3) := by decide +kernel
theorem d_L_law_632 : decode code 632 = .ok (.aload_n 1, 1) := by decide +kernel
theorem d_L_law_633 : decode code 633 = .ok (.iconst 0, 1) := by decide +kernel
theorem d_L_law_634 : decode code 634 = .ok (.iconst 0, 1) := by decide +kernel
theorem d_L_law_635 : decode code 635 = .ok (.invokevirtual 70, 3) := by decide +kernel
theorem d_L_law_638 : decode code 638 = .ok (.iload 11, 2) := by decide +kernel
theorem d_L_law_640 : decode code 640 = .ok (.if_icmp .ne 7, 3) := by decide +kernel
theorem d_L_law_643 : decode code 643 = .ok (.iconst 1, 1) := by decide +kernel
theorem d_L_law_644 : decode code 644 = .ok (.goto 4, 3) := by decide +kernel
theorem d_L_law_647 : decode code 647 = .ok (.iconst 0, 1) := by decide +kernel
theorem d_L_law_648 : decode code 648 = .ok (.istore 5, 2) := by decide +kernel
theorem d_L_law_650 : decode code 650 = .ok (.iload 8, 2) := by decide +kernel
theorem d_L_law_652 : decode code 652 = .ok (.iconst 3, 1) := by decide +kernel
theorem d_L_law_653 : decode code 653 = .ok (.ishr, 1) := by decide +kernel
theorem d_L_law_654 : decode code 654 = .ok (.iload_n 3, 1) := by decide +kernel
theorem d_L_law_655 : decode code 655 = .ok (.invokestatic 17, 3) := by decide +kernel
theorem d_L_law_658 : decode code 658 = .ok (.istore 10, 2) := by decide +kernel
theorem d_L_law_660 : decode code 660 = .ok (.iconst 0, 1) := by decide +kernel
theorem d_L_law_661 : decode code 661 = .ok (.istore 11, 2) := by decide +kernel
theorem d_L_law_663 : decode code 663 = .ok (.iload 11, 2) := by decide +kernel
theorem d_L_law_665 : decode code 665 = .ok (.iconst 4, 1) := by decide +kernel
theorem d_L_law_666 : decode code 666 = .ok (.if_icmp .ge 22, 3) := by decide +kernel
theorem d_L_law_669 : decode code 669 = .ok (.iload 5, 2) := by decide +kernel
theorem d_L_law_671 : decode code 671 = .ok (.ifCond .eq 17, 3) := by decide +kernel
theorem d_L_law_674 : decode code 674 = .ok (.aload_n 1, 1) := by decide +kernel
theorem d_L_law_675 : decode code 675 = .ok (.iload 11, 2) := by decide +kernel
theorem d_L_law_677 : decode code 677 = .ok (.invokevirtual 76, 3) := by decide +kernel
theorem d_L_law_680 : decode code 680 = .ok (.istore 5, 2) := by decide +kernel
theorem d_L_law_682 : decode code 682 = .ok (.iinc 11 1, 3) := by decide +kernel
theorem d_L_law_685 : decode code 685 = .ok (.goto (-22), 3) := by decide +kernel
theorem d_L_law_688 : decode code 688 = .ok (.iload 5, 2) := by decide +kernel
theorem d_L_law_690 : decode code 690 = .ok (.ifCond .eq 78, 3) := by decide +kernel
theorem d_L_law_693 : decode code 693 = .ok (.aload_n 1, 1) := by decide +kernel
theorem d_L_law_694 : decode code 694 = .ok (.iload 10, 2) := by decide +kernel
theorem d_L_law_696 : decode code 696 = .ok (.iconst 0, 1) := by decide +kernel
theorem d_L_law_697 : decode code 697 = .ok (.invokevirtual 80, 3) := by decide +kernel
theorem d_L_law_700 : decode code 700 = .ok (.aload_n 1, 1) := by decide +kernel
theorem d_L_law_701 : decode code 701 = .ok (.iload 10, 2) := by decide +kernel
theorem d_L_law_703 : decode code 703 = .ok (.iconst 0, 1) := by decide +kernel
theorem d_L_law_704 : decode code 704 = .ok (.invokevirtual 70, 3) := by decide +kernel
theorem d_L_law_707 : decode code 707 = .ok (.if_icmp .ne 61, 3) := by decide +kernel
theorem d_L_law_710 : decode code 710 = .ok (.aload_n 1, 1) := by decide +kernel
theorem d_L_law_711 : decode code 711 = .ok (.iload 10, 2) := by decide +kernel
theorem d_L_law_713 : decode code 713 = .ok (.iconst 2, 1) := by decide +kernel
theorem d_L_law_714 : decode code 714 = .ok (.invokevirtual 80, 3) := by decide +kernel
theorem d_L_law_717 : decode code 717 = .ok (.aload_n 1, 1) := by decide +kernel
theorem d_L_law_718 : decode code 718 = .ok (.iload 10, 2) := by decide +kernel
theorem d_L_law_720 : decode code 720 = .ok (.iconst 2, 1) := by decide +kernel
theorem d_L_law_721 : decode code 721 = .ok (.invokevirtual 70, 3) := by decide +kernel
theorem d_L_law_724 : decode code 724 = .ok (.if_icmp .ne 44, 3) := by decide +kernel
theorem d_L_law_727 : decode code 727 = .ok (.aload_n 1, 1) := by decide +kernel
theorem d_L_law_728 : decode code 728 = .ok (.iload 10, 2) := by decide +kernel
theorem d_L_law_730 : decode code 730 = .ok (.iconst 3, 1) := by decide +kernel
theorem d_L_law_731 : decode code 731 = .ok (.invokevirtual 70, 3) := by decide +kernel
theorem d_L_law_734 : decode code 734 = .ok (.ifCond .lt 34, 3) := by decide +kernel
theorem d_L_law_737 : decode code 737 = .ok (.aload_n 1, 1) := by decide +kernel
theorem d_L_law_738 : decode code 738 = .ok (.iload 10, 2) := by decide +kernel
theorem d_L_law_740 : decode code 740 = .ok (.iconst 3, 1) := by decide +kernel
theorem d_L_law_741 : decode code 741 = .ok (.invokevirtual 70, 3) := by decide +kernel
theorem d_L_law_744 : decode code 744 = .ok (.aload_n 1, 1) := by decide +kernel
theorem d_L_law_745 : decode code 745 = .ok (.iload 10, 2) := by decide +kernel
theorem d_L_law_747 : decode code 747 = .ok (.iconst 0, 1) := by decide +kernel
theorem d_L_law_748 : decode code 748 = .ok (.invokevirtual 70, 3) := by decide +kernel
theorem d_L_law_751 : decode code 751 = .ok (.if_icmp .gt 17, 3) := by decide +kernel
theorem d_L_law_754 : decode code 754 = .ok (.aload_n 1, 1) := by decide +kernel
theorem d_L_law_755 : decode code 755 = .ok (.iload 10, 2) := by decide +kernel
theorem d_L_law_757 : decode code 757 = .ok (.iconst 4, 1) := by decide +kernel
theorem d_L_law_758 : decode code 758 = .ok (.invokevirtual 70, 3) := by decide +kernel
theorem d_L_law_761 : decode code 761 = .ok (.ifCond .lt 7, 3) := by decide +kernel
theorem d_L_law_764 : decode code 764 = .ok (.iconst 1, 1) := by decide +kernel
theorem d_L_law_765 : decode code 765 = .ok (.goto 4, 3) := by decide +kernel
theorem d_L_law_768 : decode code 768 = .ok (.iconst 0, 1) := by decide +kernel
theorem d_L_law_769 : decode code 769 = .ok (.istore 5, 2) := by decide +kernel
theorem d_L_law_771 : decode code 771 = .ok (.iinc 7 1, 3) := by decide +kernel
theorem d_L_law_774 : decode code 774 = .ok (.goto (-599), 3) := by decide +kernel
theorem d_L_law_777 : decode code 777 = .ok (.iload 5, 2) := by decide +kernel
theorem d_L_law_779 : decode code 779 = .ok (.ireturn, 1) := by decide +kernel
set_option maxHeartbeats 4000000 in
set_option maxRecDepth 100000 in
theorem c_L_low (l : Launch) (D : va_G) (ct : Nat → ClassId) (st : Nat → Nat) (vv : Int32) (n9 : Nat) (hn : 1 ≤ n9 ∧ n9 < 2 ^ 31) : Met l y_L_low (wsy y_L_low b_L_low 2 (some .int)) (k2_rm 0 0) (PcR D ct st [.int vv, .int (nI n9)] []) (k2_QcV (.int (nI (lw vv n9)))) 0 0 (fun _ => False) := by
  refine enterR (by decide) (Nat.le_of_ble_eq_true rfl) ?_
  intro p e s m args below meth c ls hx hb hr hml hown hts hlk hP hE hV hS hl
  have hl : lv_has ls 2 [(0, .int vv), (1, .int (nI n9))] := hl
  refine lv_iload_n hx hb d_L_low_0 rfl (lv_at hl 0 rfl) ?_
  refine lv_ldc (v := 2147483647) hx hb hown (hts _ (List.mem_cons_of_mem _ x_835)) d_L_low_1 ?_
  refine lv_iand hx hb d_L_low_3 ?_
  refine lv_iload_n hx hb d_L_low_4 rfl (lv_at hl 1 rfl) ?_
  refine lv_irem hx hb d_L_low_5 (nI_ne0 (by omega) hn.2) ?_
  exact rR_i hx hb hr hlk d_L_low_6 (lw_eq hn)
set_option maxHeartbeats 4000000 in
theorem c_L_cell (l : Launch) (b9 L9 k : Nat) (xs : Nat → Int32) (hk : k < 100) (hL : L9 ≤ 260) : Met l y_L_cell (wsy y_L_cell b_L_cell 2 (some .int)) (k2_rm 0 0) (PcX b9 L9 xs [.ref b9, .int (nI k)]) (k2_QcV (.int (cl xs L9 k))) 0 0 (fun _ => False) := by
  refine Met.ofW (cc := b_L_cell) (maxL := 2) (ret := some .int) (by decide) rfl ?_
  intro p e s m args below meth c s₁ B hml hv
  obtain ⟨rfl, hXs, hbl⟩ := hv
  have hl := lv_entry [.ref b9, .int (nI k)] (n := 2) (Nat.le_of_ble_eq_true rfl)
  have hx := B.exec
  have hb := B.bytes
  have hr := B.returns
  have hlk := B.notSynchronized
  have hS : va_S (fun _ : Nat => False) s.heap s.heap [] := va_S.rf
  have key : ∀ ls : Array Slot, lv_has ls 2 [(0, .ref b9), (1, .int (nI k))] → W p l e (k2_rm 0 0) s m ([.ref b9, .int (nI k)] : List Value).toArray below meth c s.heap [] 0 0 (MQ below (k2_QcV (.int (cl xs L9 k))) ([.ref b9, .int (nI k)] : List Value).toArray s 0 0 (fun _ => False)) (F0 m 0 ls []) := by
    intro ls hl
    refine lv_iload_n hx hb d_L_cell_0 rfl (lv_at hl 1 rfl) ?_
    refine lv_aload_n hx hb d_L_cell_1 rfl (lv_at hl 0 rfl) ?_
    refine va_slen hx hb hXs hbl (fun z => z) hS d_L_cell_2 ?_
    refine q_icmp_ge_n (a := k) (b := L9) (tgt := 12) hx hb d_L_cell_3 (by decide) rfl rfl (by omega) (by omega) (fun h_3 => ?_) (fun h_3 => ?_)
    · refine lv_sipush (v := 7919) hx hb d_L_cell_12 (by decide) ?_
      refine lv_iload_n hx hb d_L_cell_15 rfl (lv_at hl 1 rfl) ?_
      refine lv_iconst (v := 3) hx hb d_L_cell_16 (by decide) ?_
      refine lv_iadd hx hb d_L_cell_17 ?_
      refine lv_imul hx hb d_L_cell_18 ?_
      refine lv_iload_n hx hb d_L_cell_19 rfl (lv_at hl 1 rfl) ?_
      refine lv_bipush (v := 11) hx hb d_L_cell_20 (by decide) ?_
      refine lv_iadd hx hb d_L_cell_22 ?_
      refine lv_imul hx hb d_L_cell_23 ?_
      exact rR_i hx hb hr hlk d_L_cell_24 (by unfold cl; rw [if_neg (by omega)])
    · refine lv_aload_n hx hb d_L_cell_6 rfl (lv_at hl 0 rfl) ?_
      refine lv_iload_n hx hb d_L_cell_7 rfl (lv_at hl 1 rfl) ?_
      refine va_sld hx hb hXs hbl (fun z => z) hS (vp_in_nI h_3 (by omega)) d_L_cell_8 ?_
      refine lv_goto (tgt := 24) hx hb d_L_cell_9 (by decide) ?_
      exact rR_i hx hb hr hlk d_L_cell_24 (by unfold cl; rw [if_pos h_3, nI_clamp (by omega)])
  rw [lg_entry_eq]
  exact key _ hl
theorem v_L_cell {p : Program} {e : Env} {R : Room} {s : State} {m : MethodId} {below : List Frame} {meth : Method} {c : Code} {H : Heap} {locs : List Loc} {cells slots : Nat} {Q : State → Prop} {ls : Array Slot} {A : Nat → Prop} {a0 : Cond} {pc : Nat} {rest : List Value} (l : Launch) (D : va_G) (ct : Nat → ClassId) (st : Nat → Nat) {b9 L9 : Nat} {xs : Nat → Int32} (C0 : LX p l R s m c b9 L9 xs D ct st A a0) (k : Nat) (hk : k < 100) (hS : va_S A s.heap H locs) (hcs : cells ≤ R.cells ∧ slots ≤ R.slots) (hsz : ls.size = 13) (hcat : (rest.map fun v => v.category).sum ≤ 8) (hdg : decode code pc = .ok (.invokestatic 11, 3)) (kk : ∀ wv : Int32, W p l e R s m #[Value.ref b9] below meth c H locs cells slots Q (F0 m (pc + 3) ls (.int wv :: rest))) : W p l e R s m #[Value.ref b9] below meth c H locs cells slots Q (F0 m pc ls (.int (nI k) :: .ref b9 :: rest)) := by
  obtain ⟨hx, hb, hml, hown, hts, hE, hV, hA, hXs, hbl, hbA, hRf, hRl, hL9⟩ := C0
  exact cXS (As := [.ref b9, .int (nI k)]) (rest := rest) K_L_cell x_829 hx hb hml hown hts hXs hbl hbA hS (c_L_cell l b9 L9 k xs hk hL9) rfl hsz rfl hcat hdg (Nat.le_trans (Nat.le_of_ble_eq_true rfl) hRf) (Nat.le_trans (Nat.le_of_ble_eq_true rfl) hRl) hcs (kk _)
theorem v_L_low {p : Program} {e : Env} {R : Room} {s : State} {m : MethodId} {below : List Frame} {meth : Method} {c : Code} {H : Heap} {locs : List Loc} {cells slots : Nat} {Q : State → Prop} {ls : Array Slot} {A : Nat → Prop} {a0 : Cond} {pc : Nat} {rest : List Value} {x y : Int32} (l : Launch) (D : va_G) (ct : Nat → ClassId) (st : Nat → Nat) {b9 L9 : Nat} {xs : Nat → Int32} (C0 : LX p l R s m c b9 L9 xs D ct st A a0) (n : Nat) (hy : y = nI n) (hn : 1 ≤ n ∧ n < 2 ^ 31) (hS : va_S A s.heap H locs) (hcs : cells ≤ R.cells ∧ slots ≤ R.slots) (hsz : ls.size = 13) (hcat : (rest.map fun v => v.category).sum ≤ 8) (hdg : decode code pc = .ok (.invokestatic 17, 3)) (kk : ∀ r : Nat, r < n → W p l e R s m #[Value.ref b9] below meth c H locs cells slots Q (F0 m (pc + 3) ls (.int (nI r) :: rest))) : W p l e R s m #[Value.ref b9] below meth c H locs cells slots Q (F0 m pc ls (.int y :: .int x :: rest)) := by
  subst hy
  obtain ⟨hx, hb, hml, hown, hts, hE, hV, hA, hXs, hbl, hbA, hRf, hRl, hL9⟩ := C0
  exact cRS (As := [.int x, .int (nI n)]) (rest := rest) (W0 := []) K_L_low x_832 hx hb hml hown hts hE hV hS (c_L_low l D ct st x n hn) (fun k q h => by simp at h) rfl hsz rfl hcat hdg (Nat.le_trans (Nat.le_of_ble_eq_true rfl) hRf) (Nat.le_trans (Nat.le_of_ble_eq_true rfl) hRl) hcs (kk _ (Nat.mod_lt _ hn.1))
