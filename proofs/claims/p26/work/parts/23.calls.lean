section QC
variable {p : Program} {l : Launch} {e : Env} {R : Room} {s : State} {m : MethodId} {args : Array Value} {below : List Frame} {meth : Method} {c : Code} {H : Heap} {locs : List Loc} {cells slots : Nat} {Q : State → Prop}
variable {cc : ByteArray} {pc : Nat} {ls : Array Slot} {rest : List Value} {D : va_G} {A : Nat → Prop} {a : Nat} {ct : Nat → ClassId} {ws : va_W} {H0 : Heap} {mc ms : Nat} {st : Nat → Nat}
/-- behind a call that ran: the caller goes on over its other cells and the callee's -/
theorem cW_run {W0 : va_W} {stk : List Value} {post : Option Value → va_W → Prop} {av : Array Value} (hS : va_S A s.heap H locs) (hP : va_P D classes ws H) (hD : va_D A ws) (hA : ∀ q : Nat, s.heap.size ≤ q → A q) (isC isR : List Nat) {wr : va_W} (hC : isC.map (fun i => ws[i]?) = W0.map some) (hRr : isR.map (fun i => ws[i]?) = wr.map some) (hnr : va_nd isR = true) (hdis : ∀ i ∈ isR, i ∉ isC)
    (hrun : va_Run p l e R s m args below meth c H locs cells slots mc ms (F0 m pc ls stk) rest (QcW D W0 H.size post av) (va_A W0 H.size))
    (kk : ∀ (v : Option Value) (W1 : va_W) (H1 : Heap) (locs1 : List Loc), post v W1 → va_P D classes (wr ++ W1) H1 → va_D A (wr ++ W1) → va_S A s.heap H1 locs1 → W p l e R s m args below meth c H1 locs1 (cells + mc) (slots + ms) Q (F0 m (pc + 3) ls (v.toList ++ rest))) : W p l e R s m args below meth c H locs cells slots Q (F0 m pc ls stk) := by
  have hFc := va_free (wc := W0) hD hS hA isC hC
  intro T hT X
  obtain ⟨v, st₀, t, T', L, h0, X', hL, e1, e2, ⟨⟨r, W1, hv, hp, hP1, hD1⟩, hz, hk⟩, stp⟩ := hrun T hT X
  cases hv
  rw [h0] at hz hk
  rw [← e1] at hP1 hz hk
  obtain ⟨hPj, hDj⟩ := va_join (wr := wr) (w1 := W1) hP hD isC isR hC hRr hnr hdis hk hFc hP1 hD1
  obtain ⟨t2, a1, b1⟩ := kk _ W1 T'.heap (locs ++ L) hp hPj hDj ⟨Nat.le_trans hS.1 hz, fun q h1 h2 => by
      rw [hk q (Nat.lt_of_lt_of_le h1 hS.1) (fun z => h2 (hFc q z))]
      exact hS.2.1 q h1 h2, fun q hq => by
      rcases List.mem_append.mp hq with h | h
      · exact hS.2.2 q h
      · exact hFc _ (hL q h)⟩ T' rfl X'
  exact ⟨t2, stp t2 a1, b1⟩
theorem cW_pre {W0 : va_W} (av : List Value) (hE : EV D ct s) (hV : SV st A s s.heap) (hS : va_S A s.heap H locs) (hP : va_P D classes ws H) (hD : va_D A ws) (hA : ∀ q : Nat, s.heap.size ≤ q → A q) (isC : List Nat) (hC : isC.map (fun i => ws[i]?) = W0.map some) (hnd : va_nd isC = true) : PreS s H (PcW D ct st av W0 H.size) av := by
  have hFc := va_free (wc := W0) hD hS hA isC hC
  have hPc : va_P D classes W0 H := fun k q hq => by
    obtain ⟨i, -, h2⟩ := va_in_of isC hC hq
    exact hP i q h2
  have hDc := hD.sub (ws' := W0) isC hnd hC
  exact ⟨blW, fun U hU hW => ⟨rfl, by rw [hU], by rw [hU]; exact hPc, hDc.weaken (fun _ _ _ _ => trivial), hE.moved hW, hV.at hS hFc hU hW.alike⟩⟩
/-- a nest mate's static method -/
theorem cWSN {y : MethodName} {bz : ByteArray} {nz ar nL idx f lo : Nat} {rz : Option FieldType} {a0 : Cond} {own host : String} {As : List Value} {W0 : va_W} {stk : List Value} {post : Option Value → va_W → Prop} (K : kS y bz nz rz ar) (hl : Cond.methodLinkNest own idx y host ∈ nestw) (hx : p.tables.exec = Jvm.exec) (hb : c.code = cc) (hml : c.maxLocals = nL) (hown : s.vm.findClass own = some m.cls) (hts : ∀ w ∈ a0 :: wd, w.before args s = true) (hE : EV D ct s) (hV : SV st A s s.heap) (hS : va_S A s.heap H locs) (hM : Met l y (wsy y bz nz rz) (rmW f mc ms lo) (PcW D ct st As W0 H.size) (QcW D W0 H.size post) mc ms (va_A W0 H.size)) (hP : va_P D classes ws H) (hD : va_D A ws) (hA : ∀ q : Nat, s.heap.size ≤ q → A q) (isC isR : List Nat) {wr : va_W} (hC : isC.map (fun i => ws[i]?) = W0.map some) (hRr : isR.map (fun i => ws[i]?) = wr.map some) (hnd : va_nd isC = true) (hnr : va_nd isR = true) (hdis : ∀ i ∈ isR, i ∉ isC)
    (hn : As.length = ar) (hsz : ls.size = nL) (hst : stk = As.reverse ++ rest) (hcat : (rest.map fun v => v.category).sum ≤ 8) (hdg : decode cc pc = .ok (.invokestatic idx, 3)) (hR1 : f + 1 ≤ R.frames) (hR2 : 8 + (nz + 11) + lo ≤ R.locals) (hcs : cells + mc ≤ R.cells ∧ slots + ms ≤ R.slots) (kk : ∀ (v : Option Value) (W1 : va_W) (H1 : Heap) (locs1 : List Loc), post v W1 → va_P D classes (wr ++ W1) H1 → va_D A (wr ++ W1) → va_S A s.heap H1 locs1 → W p l e R s m args below meth c H1 locs1 (cells + mc) (slots + ms) Q (F0 m (pc + 3) ls (v.toList ++ rest))) : W p l e R s m args below meth c H locs cells slots Q (F0 m pc ls stk) := by
  have hG : GoodIn (a0 :: wd) (wsy y bz nz rz) := gin K.1
  have cb : va_CN R s args own idx y host bz nz rz (wsy y bz nz rz) (rmW f mc ms lo) mc ms ar := va_cnB ar hts hG rfl rfl rfl (hE.2.1 _ hl) (hts _ (List.mem_cons_of_mem _ K.2.1)) K.2.2.2 ⟨hR1, hR2⟩
  exact cW_run hS hP hD hA isC isR hC hRr hnr hdis (va_runSN (As := As) (rest := rest) (g := F0 m pc ls stk) (own := own) (host := host) (Ts := a0 :: wd) (nL := nL) ⟨hx, hb, hml, hown, hts⟩ hM ⟨cb, hts _ (List.mem_cons_of_mem _ K.2.2.1), trivial⟩ (cW_pre As hE hV hS hP hD hA isC hC hnd) rfl hn hsz hst (by simpa [JFrame.monitorRoom] using hcat) hdg hcs) kk
/-- a constructor, of a nest mate -/
theorem cWIN {y : MethodName} {bz : ByteArray} {nz ar nL idx f lo b : Nat} {a0 : Cond} {own host : String} {As : List Value} {W0 : va_W} {stk : List Value} {post : Option Value → va_W → Prop} (K : kI y bz nz ar) (hl : Cond.methodLinkNest own idx y host ∈ nestw) (hx : p.tables.exec = Jvm.exec) (hb : c.code = cc) (hml : c.maxLocals = nL) (hown : s.vm.findClass own = some m.cls) (hts : ∀ w ∈ a0 :: wd, w.before args s = true) (hE : EV D ct s) (hV : SV st A s s.heap) (hS : va_S A s.heap H locs) (hM : Met l y (wsy y bz nz none) (rmW f mc ms lo) (PcW D ct st (.ref b :: As) W0 H.size) (QcW D W0 H.size post) mc ms (va_A W0 H.size)) (hP : va_P D classes ws H) (hD : va_D A ws) (hA : ∀ q : Nat, s.heap.size ≤ q → A q) (isC isR : List Nat) {wr : va_W} (hC : isC.map (fun i => ws[i]?) = W0.map some) (hRr : isR.map (fun i => ws[i]?) = wr.map some) (hnd : va_nd isC = true) (hnr : va_nd isR = true) (hdis : ∀ i ∈ isR, i ∉ isC)
    (hn : As.length = ar) (hsz : ls.size = nL) (hst : stk = As.reverse ++ .ref b :: rest) (hcat : (rest.map fun v => v.category).sum ≤ 8) (hdg : decode cc pc = .ok (.invokespecial idx, 3)) (hR1 : f + 1 ≤ R.frames) (hR2 : 8 + (nz + 11) + lo ≤ R.locals) (hcs : cells + mc ≤ R.cells ∧ slots + ms ≤ R.slots) (kk : ∀ (v : Option Value) (W1 : va_W) (H1 : Heap) (locs1 : List Loc), post v W1 → va_P D classes (wr ++ W1) H1 → va_D A (wr ++ W1) → va_S A s.heap H1 locs1 → W p l e R s m args below meth c H1 locs1 (cells + mc) (slots + ms) Q (F0 m (pc + 3) ls (v.toList ++ rest))) : W p l e R s m args below meth c H locs cells slots Q (F0 m pc ls stk) := by
  have hG : GoodIn (a0 :: wd) (wsy y bz nz none) := gin K.1
  have cb : va_CN R s args own idx y host bz nz none (wsy y bz nz none) (rmW f mc ms lo) mc ms ar := va_cnB ar hts hG rfl rfl rfl (hE.2.1 _ hl) (hts _ (List.mem_cons_of_mem _ K.2.1)) K.2.2.2 ⟨hR1, hR2⟩
  exact cW_run hS hP hD hA isC isR hC hRr hnr hdis (va_runIN (As := As) (b := b) (rest := rest) (g := F0 m pc ls stk) (own := own) (host := host) (Ts := a0 :: wd) (nL := nL) ⟨hx, hb, hml, hown, hts⟩ hM ⟨cb, K.2.2.1.2, hts _ (List.mem_cons_of_mem _ K.2.2.1.1)⟩ (cW_pre (.ref b :: As) hE hV hS hP hD hA isC hC hnd) rfl hn hsz hst (by simpa [JFrame.monitorRoom] using hcat) hdg hcs) kk
/-- a constructor -/
theorem cWI {y : MethodName} {bz : ByteArray} {nz ar nL idx f lo b : Nat} {a0 : Cond} {own : String} {As : List Value} {W0 : va_W} {stk : List Value} {post : Option Value → va_W → Prop} (K : kI y bz nz ar) (hl : Cond.methodLink own idx y ∈ wd) (hx : p.tables.exec = Jvm.exec) (hb : c.code = cc) (hml : c.maxLocals = nL) (hown : s.vm.findClass own = some m.cls) (hts : ∀ w ∈ a0 :: wd, w.before args s = true) (hE : EV D ct s) (hV : SV st A s s.heap) (hS : va_S A s.heap H locs) (hM : Met l y (wsy y bz nz none) (rmW f mc ms lo) (PcW D ct st (.ref b :: As) W0 H.size) (QcW D W0 H.size post) mc ms (va_A W0 H.size)) (hP : va_P D classes ws H) (hD : va_D A ws) (hA : ∀ q : Nat, s.heap.size ≤ q → A q) (isC isR : List Nat) {wr : va_W} (hC : isC.map (fun i => ws[i]?) = W0.map some) (hRr : isR.map (fun i => ws[i]?) = wr.map some) (hnd : va_nd isC = true) (hnr : va_nd isR = true) (hdis : ∀ i ∈ isR, i ∉ isC)
    (hn : As.length = ar) (hsz : ls.size = nL) (hst : stk = As.reverse ++ .ref b :: rest) (hcat : (rest.map fun v => v.category).sum ≤ 8) (hdg : decode cc pc = .ok (.invokespecial idx, 3)) (hR1 : f + 1 ≤ R.frames) (hR2 : 8 + (nz + 11) + lo ≤ R.locals) (hcs : cells + mc ≤ R.cells ∧ slots + ms ≤ R.slots) (kk : ∀ (v : Option Value) (W1 : va_W) (H1 : Heap) (locs1 : List Loc), post v W1 → va_P D classes (wr ++ W1) H1 → va_D A (wr ++ W1) → va_S A s.heap H1 locs1 → W p l e R s m args below meth c H1 locs1 (cells + mc) (slots + ms) Q (F0 m (pc + 3) ls (v.toList ++ rest))) : W p l e R s m args below meth c H locs cells slots Q (F0 m pc ls stk) := by
  have hG : GoodIn (a0 :: wd) (wsy y bz nz none) := gin K.1
  have cb : CallB R s args own idx y bz nz none (wsy y bz nz none) (rmW f mc ms lo) mc ms ar := callB_of ar hts hG rfl rfl rfl (hts _ (List.mem_cons_of_mem _ K.2.1)) (hts _ (List.mem_cons_of_mem _ hl)) K.2.2.2 ⟨hR1, hR2⟩
  exact cW_run hS hP hD hA isC isR hC hRr hnr hdis (va_runI (As := As) (b := b) (rest := rest) (g := F0 m pc ls stk) (own := own) (Ts := a0 :: wd) (nL := nL) ⟨hx, hb, hml, hown, hts⟩ hM ⟨cb, K.2.2.1.2, hts _ (List.mem_cons_of_mem _ K.2.2.1.1)⟩ (cW_pre (.ref b :: As) hE hV hS hP hD hA isC hC hnd) rfl hn hsz hst (by simpa [JFrame.monitorRoom] using hcat) hdg hcs) kk
/-- System.arraycopy of the first n elements -/
theorem q_cpyL {a0 : Cond} {own : String} {idx N0 N1 n b0 : Nat} {fr to9 : Nat → Int64} {ws1 : va_W} (q0 q1 : Nat) (hx : p.tables.exec = Jvm.exec) (hb : c.code = cc) (hml : c.maxLocals = ls.size) (hown : s.vm.findClass own = some m.cls) (hts : ∀ w ∈ a0 :: wd, w.before args s = true) (hE : EV D ct s) (hP : va_P D classes ws H) (hD : va_D A ws) (hS : va_S A H0 H locs) (hl : Cond.methodLink own idx arraycopyName ∈ wd) (hn1 : Cond.native arraycopyName ∈ wd) (hn2 : Cond.static arraycopyName ∈ wd) (hn3 : Cond.initialized "java/lang/System" ∈ wd) (h0 : ws[q0]? = some (b0, .inl (ct 1, N0, .inr (.inl fr)))) (h1 : ws[q1]? = some (a, .inl (ct 1, N1, .inr (.inl to9)))) (hn : n ≤ N0) (hn' : n ≤ N1) (hz : n < 2 ^ 31) (hws : ws.set q1 (a, .inl (ct 1, N1, .inr (.inl (fun j => if j < n then fr j else to9 j)))) = ws1)
    (hdg : decode cc pc = .ok (.invokestatic idx, 3)) (hf : 1 ≤ R.frames) (hlo : (rest.map fun v => v.category).sum + (nativeFrameWords "java/lang/System" "arraycopy" 5 + 11) ≤ R.locals)
    (kk : ∀ (H1 : Heap) (locs1 : List Loc), va_P D classes ws1 H1 → va_D A ws1 → va_S A H0 H1 locs1 → W p l e R s m args below meth c H1 locs1 cells slots Q (F0 m (pc + 3) ls rest)) : W p l e R s m args below meth c H locs cells slots Q (F0 m pc ls (.int (nI n) :: .int 0 :: .ref a :: .int 0 :: .ref b0 :: rest)) := by
  have e0 : (nI n).toNatClampNeg = n := nI_clamp hz
  have e1 : va_cpy fr to9 (0 : Int32).toNatClampNeg (0 : Int32).toNatClampNeg (nI n).toNatClampNeg = fun j => if j < n then fr j else to9 j := by
    rw [e0]
    funext j
    show (if 0 ≤ j ∧ j < 0 + n then fr (0 + (j - 0)) else to9 j) = _
    simp
  refine va_copyl hx hb hml hown (hts _ (List.mem_cons_of_mem _ hl)) (hts _ (List.mem_cons_of_mem _ hn1)) (hts _ (List.mem_cons_of_mem _ hn2)) (hts _ (List.mem_cons_of_mem _ hn3)) hE.K hP hD hS q0 q1 1 1 h0 h1 rfl rfl rfl (by decide) (by decide) (nI_pos hz) (by rw [e0]; show 0 + n ≤ N0; omega) (by rw [e0]; show 0 + n ≤ N1; omega) (fun _ _ => rfl) hf hlo hdg fun H1 locs1 k1 k2 k3 => ?_
  rw [e1, hws] at k1 k2
  exact kk H1 locs1 k1 k2 k3
theorem q_cpyI {a0 : Cond} {own : String} {idx N0 N1 n b0 : Nat} {fr to9 : Nat → Int32} {ws1 : va_W} (q0 q1 : Nat) (hx : p.tables.exec = Jvm.exec) (hb : c.code = cc) (hml : c.maxLocals = ls.size) (hown : s.vm.findClass own = some m.cls) (hts : ∀ w ∈ a0 :: wd, w.before args s = true) (hE : EV D ct s) (hP : va_P D classes ws H) (hD : va_D A ws) (hS : va_S A H0 H locs) (hl : Cond.methodLink own idx arraycopyName ∈ wd) (hn1 : Cond.native arraycopyName ∈ wd) (hn2 : Cond.static arraycopyName ∈ wd) (hn3 : Cond.initialized "java/lang/System" ∈ wd) (h0 : ws[q0]? = some (b0, .inl (ct 0, N0, .inl fr))) (h1 : ws[q1]? = some (a, .inl (ct 0, N1, .inl to9))) (hn : n ≤ N0) (hn' : n ≤ N1) (hz : n < 2 ^ 31) (hws : ws.set q1 (a, .inl (ct 0, N1, .inl (fun j => if j < n then fr j else to9 j))) = ws1)
    (hdg : decode cc pc = .ok (.invokestatic idx, 3)) (hf : 1 ≤ R.frames) (hlo : (rest.map fun v => v.category).sum + (nativeFrameWords "java/lang/System" "arraycopy" 5 + 11) ≤ R.locals)
    (kk : ∀ (H1 : Heap) (locs1 : List Loc), va_P D classes ws1 H1 → va_D A ws1 → va_S A H0 H1 locs1 → W p l e R s m args below meth c H1 locs1 cells slots Q (F0 m (pc + 3) ls rest)) : W p l e R s m args below meth c H locs cells slots Q (F0 m pc ls (.int (nI n) :: .int 0 :: .ref a :: .int 0 :: .ref b0 :: rest)) := by
  have e0 : (nI n).toNatClampNeg = n := nI_clamp hz
  have e1 : va_cpy fr to9 (0 : Int32).toNatClampNeg (0 : Int32).toNatClampNeg (nI n).toNatClampNeg = fun j => if j < n then fr j else to9 j := by
    rw [e0]
    funext j
    show (if 0 ≤ j ∧ j < 0 + n then fr (0 + (j - 0)) else to9 j) = _
    simp
  refine va_copyi hx hb hml hown (hts _ (List.mem_cons_of_mem _ hl)) (hts _ (List.mem_cons_of_mem _ hn1)) (hts _ (List.mem_cons_of_mem _ hn2)) (hts _ (List.mem_cons_of_mem _ hn3)) hE.K hP hD hS q0 q1 0 0 h0 h1 rfl rfl rfl (by decide) (by decide) (nI_pos hz) (by rw [e0]; show 0 + n ≤ N0; omega) (by rw [e0]; show 0 + n ≤ N1; omega) (fun _ _ => rfl) hf hlo hdg fun H1 locs1 k1 k2 k3 => ?_
  rw [e1, hws] at k1 k2
  exact kk H1 locs1 k1 k2 k3
end QC

theorem mnI_self (x : Int32) : mnI x x = x := by unfold mnI; split <;> rfl
set_option maxHeartbeats 4000000 in
set_option maxRecDepth 100000 in
theorem c_X_copyRow_1 (l : Launch) (D : va_G) (ct : Nat → ClassId) (st : Nat → Nat) (xa : Nat) (xb : Nat) (nn : Nat) (fr : Nat → Int64) (to9 : Nat → Int64) (hnn : nn < 2 ^ 31) (sz : Nat) : Met l y_X_copyRow_1 (wsy y_X_copyRow_1 b_X_copyRow_1 2 (none)) (rmW 1 0 0 64) (PcW D ct st [.ref xa, .ref xb] [(xa, .inl (ct 1, nn, .inr (.inl fr))), (xb, .inl (ct 1, nn, .inr (.inl to9)))] sz) (QcW D [(xa, .inl (ct 1, nn, .inr (.inl fr))), (xb, .inl (ct 1, nn, .inr (.inl to9)))] sz (fun v W1 => v = none ∧ W1 = [(xa, .inl (ct 1, nn, .inr (.inl fr))), (xb, .inl (ct 1, nn, .inr (.inl (fun j => if j < nn then fr j else to9 j))))] ∧ (True))) 0 0 (va_A [(xa, .inl (ct 1, nn, .inr (.inl fr))), (xb, .inl (ct 1, nn, .inr (.inl to9)))] sz) := by
  refine enterW (by decide) (Nat.le_of_ble_eq_true rfl) ?_
  intro p e s m args below meth c ls A hx hb hr hml hown hts hlk hin hsz hAe hP hD hA hE hV hS hl
  have hl : lv_has ls 2 [(0, .ref xa), (1, .ref xb)] := hl
  refine lv_aload_n hx hb d_X_copyRow_1_0 rfl (lv_at hl 0 rfl) ?_
  refine lv_iconst (v := 0) hx hb d_X_copyRow_1_1 (by decide) ?_
  refine lv_aload_n hx hb d_X_copyRow_1_2 rfl (lv_at hl 1 rfl) ?_
  refine lv_iconst (v := 0) hx hb d_X_copyRow_1_3 (by decide) ?_
  refine lv_aload_n hx hb d_X_copyRow_1_4 rfl (lv_at hl 0 rfl) ?_
  refine va_alen (v := (nI nn)) hx hb hE.K hP 0 1 rfl rfl (by rfl) d_X_copyRow_1_5 ?_
  refine lv_aload_n hx hb d_X_copyRow_1_6 rfl (lv_at hl 1 rfl) ?_
  refine va_alen (v := (nI nn)) hx hb hE.K hP 1 1 rfl rfl (by rfl) d_X_copyRow_1_7 ?_
  refine va_mmin hx hb (by rw [hml]; exact hl.1.symm) hown (hts _ (List.mem_cons_of_mem _ x_375)) (hts _ (List.mem_cons_of_mem _ x_376)) (hts _ (List.mem_cons_of_mem _ x_13)) (hts _ (List.mem_cons_of_mem _ x_377)) (Nat.le_of_ble_eq_true rfl) (Nat.le_of_ble_eq_true rfl) (Nat.le_of_ble_eq_true rfl) (Nat.le_of_ble_eq_true rfl) d_X_copyRow_1_8 ?_
  refine q_topi (v := (mnI (nI nn) (nI nn))) rfl ?_
  refine q_topi (v := nI nn) (mnI_self _) ?_
  refine q_cpyL (n := nn) 0 1 (ws1 := [(xa, .inl (ct 1, nn, .inr (.inl fr))), (xb, .inl (ct 1, nn, .inr (.inl (fun j => if j < nn then fr j else to9 j))))]) hx hb (by rw [hml]; exact hl.1.symm) hown hts hE hP hD hS x_378 x_380 x_379 x_14 rfl rfl (by omega) (by omega) (by omega) rfl d_X_copyRow_1_11 (Nat.le_of_ble_eq_true rfl) (Nat.le_of_ble_eq_true rfl) (fun H locs hP hD hS => ?_)
  exact rW_v hx hb hr hlk hAe hS hP hD (Nat.le_of_ble_eq_true rfl) (Nat.le_of_ble_eq_true rfl) d_X_copyRow_1_14 ⟨rfl, rfl, trivial⟩
set_option maxHeartbeats 4000000 in
set_option maxRecDepth 100000 in
theorem c_X_copyRow_0 (l : Launch) (D : va_G) (ct : Nat → ClassId) (st : Nat → Nat) (xa : Nat) (xb : Nat) (nn : Nat) (fr : Nat → Int32) (to9 : Nat → Int32) (hnn : nn < 2 ^ 31) (sz : Nat) : Met l y_X_copyRow_0 (wsy y_X_copyRow_0 b_X_copyRow_0 2 (none)) (rmW 1 0 0 64) (PcW D ct st [.ref xa, .ref xb] [(xa, .inl (ct 0, nn, .inl fr)), (xb, .inl (ct 0, nn, .inl to9))] sz) (QcW D [(xa, .inl (ct 0, nn, .inl fr)), (xb, .inl (ct 0, nn, .inl to9))] sz (fun v W1 => v = none ∧ W1 = [(xa, .inl (ct 0, nn, .inl fr)), (xb, .inl (ct 0, nn, .inl (fun j => if j < nn then fr j else to9 j)))] ∧ (True))) 0 0 (va_A [(xa, .inl (ct 0, nn, .inl fr)), (xb, .inl (ct 0, nn, .inl to9))] sz) := by
  refine enterW (by decide) (Nat.le_of_ble_eq_true rfl) ?_
  intro p e s m args below meth c ls A hx hb hr hml hown hts hlk hin hsz hAe hP hD hA hE hV hS hl
  have hl : lv_has ls 2 [(0, .ref xa), (1, .ref xb)] := hl
  refine lv_aload_n hx hb d_X_copyRow_0_0 rfl (lv_at hl 0 rfl) ?_
  refine lv_iconst (v := 0) hx hb d_X_copyRow_0_1 (by decide) ?_
  refine lv_aload_n hx hb d_X_copyRow_0_2 rfl (lv_at hl 1 rfl) ?_
  refine lv_iconst (v := 0) hx hb d_X_copyRow_0_3 (by decide) ?_
  refine lv_aload_n hx hb d_X_copyRow_0_4 rfl (lv_at hl 0 rfl) ?_
  refine va_alen (v := (nI nn)) hx hb hE.K hP 0 0 rfl rfl (by rfl) d_X_copyRow_0_5 ?_
  refine lv_aload_n hx hb d_X_copyRow_0_6 rfl (lv_at hl 1 rfl) ?_
  refine va_alen (v := (nI nn)) hx hb hE.K hP 1 0 rfl rfl (by rfl) d_X_copyRow_0_7 ?_
  refine va_mmin hx hb (by rw [hml]; exact hl.1.symm) hown (hts _ (List.mem_cons_of_mem _ x_375)) (hts _ (List.mem_cons_of_mem _ x_376)) (hts _ (List.mem_cons_of_mem _ x_13)) (hts _ (List.mem_cons_of_mem _ x_377)) (Nat.le_of_ble_eq_true rfl) (Nat.le_of_ble_eq_true rfl) (Nat.le_of_ble_eq_true rfl) (Nat.le_of_ble_eq_true rfl) d_X_copyRow_0_8 ?_
  refine q_topi (v := (mnI (nI nn) (nI nn))) rfl ?_
  refine q_topi (v := nI nn) (mnI_self _) ?_
  refine q_cpyI (n := nn) 0 1 (ws1 := [(xa, .inl (ct 0, nn, .inl fr)), (xb, .inl (ct 0, nn, .inl (fun j => if j < nn then fr j else to9 j)))]) hx hb (by rw [hml]; exact hl.1.symm) hown hts hE hP hD hS x_378 x_380 x_379 x_14 rfl rfl (by omega) (by omega) (by omega) rfl d_X_copyRow_0_11 (Nat.le_of_ble_eq_true rfl) (Nat.le_of_ble_eq_true rfl) (fun H locs hP hD hS => ?_)
  exact rW_v hx hb hr hlk hAe hS hP hD (Nat.le_of_ble_eq_true rfl) (Nat.le_of_ble_eq_true rfl) d_X_copyRow_0_14 ⟨rfl, rfl, trivial⟩
