/-! the law's rows: a world of named cells and a tail of cells that no call of a case reaches -/
theorem va_P.left {D : va_G} {cl : List vw_C} {a b : va_W} {H : Heap} (h : va_P D cl (a ++ b) H) : va_P D cl a H := fun k q hq => h k q (by rw [List.getElem?_append_left (List.getElem?_eq_some_iff.mp hq).1]; exact hq)
theorem va_D.left {A : Nat → Prop} {a b : va_W} (h : va_D A (a ++ b)) : va_D A a := h.by id (fun k q hq => by show (a ++ b)[k]? = some q; rw [List.getElem?_append_left (List.getElem?_eq_some_iff.mp hq).1]; exact hq) (fun _ _ _ _ e => e)
theorem va_A.left {a b : va_W} {sz q : Nat} (h : va_A a sz q) : va_A (a ++ b) sz q := by
  rcases h with ⟨k, e, h⟩ | h
  · exact Or.inl ⟨k, e, by rw [List.getElem?_append_left (List.getElem?_eq_some_iff.mp h).1]; exact h⟩
  · exact Or.inr h
section LW
variable {p : Program} {l : Launch} {e : Env} {R : Room} {s : State} {m : MethodId} {args : Array Value} {below : List Frame} {meth : Method} {c : Code} {H : Heap} {locs : List Loc} {cells slots : Nat} {Q : State → Prop}
variable {cc : ByteArray} {pc : Nat} {ls : Array Slot} {rest : List Value} {D : va_G} {A : Nat → Prop} {a : Nat} {ct : Nat → ClassId} {zs : va_W} {H0 : Heap} {mc ms : Nat} {st : Nat → Nat}
/-- behind a run that had part of the named cells -/
theorem q_tail {X W0 wr : va_W} {As rest : List Value} {g : JFrame} {post : Option Value → va_W → Prop} {g1 : JFrame} (hg1 : ∀ v : Option Value, { g with pc := g.pc + 3, stack := v.toList ++ rest } = F0 m (pc + 3) ls (v.toList ++ rest)) (hP : va_P D classes (X ++ zs) H) (hD : va_D A (X ++ zs)) (hS : va_S A s.heap H locs) (hA : ∀ q : Nat, s.heap.size ≤ q → A q) (isC isR : List Nat) (hC : isC.map (fun i => X[i]?) = W0.map some) (hRr : isR.map (fun i => X[i]?) = wr.map some) (hnr : va_nd isR = true) (hdis : ∀ i ∈ isR, i ∉ isC)
    (hrun : va_Run p l e R s m args below meth c H locs cells slots mc ms g rest (QcW D W0 H.size post As.toArray) (va_A W0 H.size))
    (kk : ∀ (v : Option Value) (W1 : va_W) (H1 : Heap) (locs1 : List Loc), post v W1 → va_P D classes ((wr ++ W1) ++ zs) H1 → va_D A ((wr ++ W1) ++ zs) → va_S A s.heap H1 locs1 → W p l e R s m args below meth c H1 locs1 (cells + mc) (slots + ms) Q (F0 m (pc + 3) ls (v.toList ++ rest))) : W p l e R s m args below meth c H locs cells slots Q g := by
  have hFc : ∀ q, va_A W0 H.size q → A q := fun q h => va_freeP hD hS hA isC hC q (va_A.left h)
  intro T hT X
  obtain ⟨v, st₀, t, T', L, h0, X', hL, e1, e2, ⟨⟨r, W1, hv, hp, hP1, hD1⟩, hz, hk⟩, stp⟩ := hrun T hT X
  cases hv
  rw [h0] at hz hk
  rw [← e1] at hP1 hz hk
  obtain ⟨hPj, hDj⟩ := va_joinQ (wr := wr) (w1 := W1) hP hD isC isR hC hRr hnr hdis hk hFc hP1 hD1
  obtain ⟨t2, a1, b1⟩ := kk _ W1 T'.heap (locs ++ L) hp hPj hDj ⟨Nat.le_trans hS.1 hz, fun q h1 h2 => by
      rw [hk q (Nat.lt_of_lt_of_le h1 hS.1) (fun z => h2 (hFc q z))]
      exact hS.2.1 q h1 h2, fun q hq => by
      rcases List.mem_append.mp hq with h | h
      · exact hS.2.2 q h
      · exact hFc _ (hL q h)⟩ T' rfl X'
  rw [← hg1] at a1
  exact ⟨t2, stp t2 a1, b1⟩
/-- a wrapper of the law: static, with a table -/
theorem cWSHp {y : MethodName} {bz : ByteArray} {nz ar nL idx f lo : Nat} {rz : Option FieldType} {hh : List (Nat × Nat × Nat × Nat)} {a0 : Cond} {own : String} {As : List Value} {X W0 : va_W} {stk : List Value} {post : Option Value → va_W → Prop} (K : kSH y bz nz rz hh ar) (hl : Cond.methodLink own idx y ∈ wd) (hx : p.tables.exec = Jvm.exec) (hb : c.code = cc) (hml : c.maxLocals = nL) (hown : s.vm.findClass own = some m.cls) (hts : ∀ w ∈ a0 :: wd, w.before args s = true) (hE : EV D ct s) (hV : SV st A s s.heap) (hS : va_S A s.heap H locs) (hM : Met l y (wsyH y bz nz rz hh) (rmW f mc ms lo) (PcW D ct st As W0 H.size) (QcW D W0 H.size post) mc ms (va_A W0 H.size)) (hP : va_P D classes (X ++ zs) H) (hD : va_D A (X ++ zs)) (hA : ∀ q : Nat, s.heap.size ≤ q → A q) (isC isR : List Nat) {wr : va_W} (hC : isC.map (fun i => X[i]?) = W0.map some) (hRr : isR.map (fun i => X[i]?) = wr.map some) (hnd : va_nd isC = true) (hnr : va_nd isR = true) (hdis : ∀ i ∈ isR, i ∉ isC)
    (hn : As.length = ar) (hsz : ls.size = nL) (hst : stk = As.reverse ++ rest) (hcat : (rest.map fun v => v.category).sum ≤ 8) (hdg : decode cc pc = .ok (.invokestatic idx, 3)) (hR1 : f + 1 ≤ R.frames) (hR2 : 8 + (nz + 11) + lo ≤ R.locals) (hcs : cells + mc ≤ R.cells ∧ slots + ms ≤ R.slots) (kk : ∀ (v : Option Value) (W1 : va_W) (H1 : Heap) (locs1 : List Loc), post v W1 → va_P D classes ((wr ++ W1) ++ zs) H1 → va_D A ((wr ++ W1) ++ zs) → va_S A s.heap H1 locs1 → W p l e R s m args below meth c H1 locs1 (cells + mc) (slots + ms) Q (F0 m (pc + 3) ls (v.toList ++ rest))) : W p l e R s m args below meth c H locs cells slots Q (F0 m pc ls stk) := by
  have hG : GoodIn (a0 :: wd) (va_wsS own idx y (wsyH y bz nz rz hh)) := by
    intro w hw
    rcases List.mem_append.mp hw with h | h
    · have h1 : w ∈ wd := by
        rcases List.mem_cons.mp h with rfl | h
        · exact hl
        · rcases List.mem_cons.mp h with rfl | h
          · exact K.2.2.1
          · rw [List.mem_singleton.mp h]; exact K.2.1
      exact ⟨List.mem_cons_of_mem _ h1, wd_good _ h1⟩
    · exact ginH K.1 w h
  have cb := vx_cwSW (R := R) (own := own) (index := idx) (y := y) (bytes := bz) (maxL := nz) (ret := rz) (hh := hh) (rm := rmW f mc ms lo) (mc := mc) (ms := ms) ar hts hG rfl rfl rfl K.2.2.2 ⟨hR1, hR2⟩
  have hFc : ∀ q, va_A W0 H.size q → A q := fun q h => va_freeP hD hS hA isC hC q (va_A.left h)
  have hPc : va_P D classes W0 H := (hP.part isC hC).left
  have hDc : va_D A W0 := (hD.part isC hnd hC).left
  exact q_tail (g := F0 m pc ls stk) (g1 := F0 m pc ls stk) (fun v => rfl) hP hD hS hA isC isR hC hRr hnr hdis (vx_runSW (As := As) (rest := rest) (g := F0 m pc ls stk) (own := own) (Ts := a0 :: wd) (nL := nL) ⟨hx, hb, hml, hown, hts⟩ hM cb ⟨blW, fun U hU hW => ⟨rfl, by rw [hU], by rw [hU]; exact hPc, hDc.weaken (fun _ _ _ _ => trivial), hE.moved hW, hV.at hS hFc hU hW.alike⟩⟩ rfl hn hsz hst (by simpa [JFrame.monitorRoom] using hcat) hdg hcs) kk
/-- a method of the model -/
theorem cWVp {y : MethodName} {bz : ByteArray} {nz ar nL idx f lo : Nat} {rz : Option FieldType} {a0 : Cond} {own : String} {As : List Value} {X W0 : va_W} {stk : List Value} {post : Option Value → va_W → Prop} {b : Nat} {ci q9 : Nat} {T9 : u_T} {N9 : Nat} {fs9 : List Value} (K : kV y bz nz rz ar) (hl : Cond.methodLink own idx y ∈ wd) (hx : p.tables.exec = Jvm.exec) (hb : c.code = cc) (hml : c.maxLocals = nL) (hown : s.vm.findClass own = some m.cls) (hts : ∀ w ∈ a0 :: wd, w.before args s = true) (hE : EV D ct s) (hV : SV st A s s.heap) (hS : va_S A s.heap H locs) (hM : Met l y (wsy y bz nz rz) (rmW f mc ms lo) (PcW D ct st (.ref b :: As) W0 H.size) (QcW D W0 H.size post) mc ms (va_A W0 H.size)) (hP : va_P D classes (X ++ zs) H) (hD : va_D A (X ++ zs)) (hA : ∀ q : Nat, s.heap.size ≤ q → A q) (isC isR : List Nat) {wr : va_W} (hC : isC.map (fun i => X[i]?) = W0.map some) (hRr : isR.map (fun i => X[i]?) = wr.map some) (hnd : va_nd isC = true) (hnr : va_nd isR = true) (hdis : ∀ i ∈ isR, i ∉ isC) (hc : classes[ci]? = some (y.cls, T9, N9)) (he : (X ++ zs)[q9]? = some (b, .inr (ci, fs9)))
    (hn : As.length = ar) (hsz : ls.size = nL) (hst : stk = As.reverse ++ .ref b :: rest) (hcat : (rest.map fun v => v.category).sum ≤ 8) (hdg : decode cc pc = .ok (.invokevirtual idx, 3)) (hR1 : f + 1 ≤ R.frames) (hR2 : 8 + (nz + 11) + lo ≤ R.locals) (hcs : cells + mc ≤ R.cells ∧ slots + ms ≤ R.slots) (kk : ∀ (v : Option Value) (W1 : va_W) (H1 : Heap) (locs1 : List Loc), post v W1 → va_P D classes ((wr ++ W1) ++ zs) H1 → va_D A ((wr ++ W1) ++ zs) → va_S A s.heap H1 locs1 → W p l e R s m args below meth c H1 locs1 (cells + mc) (slots + ms) Q (F0 m (pc + 3) ls (v.toList ++ rest))) : W p l e R s m args below meth c H locs cells slots Q (F0 m pc ls stk) := by
  have hG : GoodIn (a0 :: wd) (wsy y bz nz rz) := gin K.1
  have cb : CallB R s args own idx y bz nz rz (wsy y bz nz rz) (rmW f mc ms lo) mc ms ar := callB_of ar hts hG rfl rfl rfl (hts _ (List.mem_cons_of_mem _ K.2.1)) (hts _ (List.mem_cons_of_mem _ hl)) K.2.2.2 ⟨hR1, hR2⟩
  have hFc : ∀ q, va_A W0 H.size q → A q := fun q h => va_freeP hD hS hA isC hC q (va_A.left h)
  have hPc : va_P D classes W0 H := (hP.part isC hC).left
  have hDc : va_D A W0 := (hD.part isC hnd hC).left
  have hrec : ∃ cellB : Cell, H[b]? = some cellB ∧ cellB.vm.isStatics = false ∧ s.vm.findClass y.cls = some cellB.cls := va_recv hE.K hP hc he
  exact q_tail (g := F0 m pc ls stk) (g1 := F0 m pc ls stk) (fun v => rfl) hP hD hS hA isC isR hC hRr hnr hdis (va_runV (As := As) (b := b) (C := y.cls) (rest := rest) (g := F0 m pc ls stk) (own := own) (Ts := a0 :: wd) (nL := nL) ⟨hx, hb, hml, hown, hts⟩ hM ⟨cb, hts _ (List.mem_cons_of_mem _ K.2.2.1.1), hts _ (List.mem_cons_of_mem _ K.2.2.1.2)⟩ ⟨blW, hrec, fun U hU hW => ⟨rfl, by rw [hU], by rw [hU]; exact hPc, hDc.weaken (fun _ _ _ _ => trivial), hE.moved hW, hV.at hS hFc hU hW.alike⟩⟩ rfl hn hsz hst (by simpa [JFrame.monitorRoom] using hcat) hdg hcs) kk
end LW

theorem K_L_anew : kSH y_L_anew b_L_anew 5 (some .int) [(0, 10, 13, 23), (0, 10, 17, 13)] 4 := ⟨x_645, x_0, x_644, by unfold kD; decide +kernel⟩
theorem K_L_came : kSH y_L_came b_L_came 4 (some .int) [(0, 8, 11, 13)] 3 := ⟨x_670, x_0, x_669, by unfold kD; decide +kernel⟩
theorem K_L_cell_0 : kSH y_L_cell_0 b_L_cell_0 7 (some .int) [(0, 11, 14, 23), (0, 11, 18, 13), (0, 11, 22, 25)] 6 := ⟨x_419, x_0, x_418, by unfold kD; decide +kernel⟩
theorem K_L_flow : kSH y_L_flow b_L_flow 4 (some .int) [(0, 9, 12, 13), (0, 9, 15, 25)] 3 := ⟨x_819, x_0, x_818, by unfold kD; decide +kernel⟩
theorem K_L_front : kSH y_L_front b_L_front 7 (some .int) [(0, 14, 17, 13), (0, 14, 21, 25)] 6 := ⟨x_688, x_0, x_687, by unfold kD; decide +kernel⟩
theorem K_L_gas : kSH y_L_gas b_L_gas 3 (some .int) [(0, 5, 8, 13)] 2 := ⟨x_407, x_0, x_406, by unfold kD; decide +kernel⟩
theorem K_L_goBack : kSH y_L_goBack b_L_goBack 3 (some .int) [(0, 5, 8, 13), (0, 5, 11, 25)] 2 := ⟨x_917, x_0, x_916, by unfold kD; decide +kernel⟩
theorem K_L_ignition : kSH y_L_ignition b_L_ignition 5 (some .int) [(0, 7, 10, 13)] 4 := ⟨x_477, x_0, x_476, by unfold kD; decide +kernel⟩
theorem K_L_isKept : kSH y_L_isKept b_L_isKept 4 (some .int) [(0, 16, 19, 13)] 3 := ⟨x_677, x_0, x_676, by unfold kD; decide +kernel⟩
theorem K_L_keep : kSH y_L_keep b_L_keep 3 (some .int) [(0, 5, 8, 13)] 2 := ⟨x_887, x_0, x_886, by unfold kD; decide +kernel⟩
theorem K_L_node : kSH y_L_node b_L_node 5 (some .int) [(0, 10, 13, 23), (0, 10, 17, 13)] 4 := ⟨x_875, x_0, x_874, by unfold kD; decide +kernel⟩
theorem K_L_ofFront : kSH y_L_ofFront b_L_ofFront 5 (some .int) [(0, 10, 13, 23), (0, 10, 17, 13)] 4 := ⟨x_774, x_0, x_773, by unfold kD; decide +kernel⟩
theorem K_L_pipe : kSH y_L_pipe b_L_pipe 8 (some .int) [(0, 13, 16, 13)] 7 := ⟨x_786, x_0, x_785, by unfold kD; decide +kernel⟩
theorem K_L_probe : kSH y_L_probe b_L_probe 5 (some .int) [(0, 10, 13, 23), (0, 10, 17, 13)] 4 := ⟨x_663, x_0, x_662, by unfold kD; decide +kernel⟩
theorem K_L_reservoir : kSH y_L_reservoir b_L_reservoir 4 (some .int) [(0, 9, 12, 13), (0, 9, 15, 25)] 3 := ⟨x_811, x_0, x_810, by unfold kD; decide +kernel⟩
theorem K_L_shape : kSH y_L_shape b_L_shape 5 (some .int) [(0, 7, 10, 13)] 4 := ⟨x_299, x_0, x_298, by unfold kD; decide +kernel⟩
theorem K_L_step : kSH y_L_step b_L_step 5 (some .int) [(0, 10, 13, 13), (0, 10, 17, 25)] 4 := ⟨x_487, x_0, x_486, by unfold kD; decide +kernel⟩
theorem K_L_tick : kSH y_L_tick b_L_tick 4 (some .int) [(0, 9, 12, 13)] 3 := ⟨x_709, x_0, x_708, by unfold kD; decide +kernel⟩
theorem K_L_tube : kSH y_L_tube b_L_tube 5 (some .int) [(0, 10, 13, 23), (0, 10, 17, 13)] 4 := ⟨x_621, x_0, x_620, by unfold kD; decide +kernel⟩
theorem K_L_valve : kSH y_L_valve b_L_valve 4 (some .int) [(0, 9, 12, 13), (0, 9, 15, 25)] 3 := ⟨x_798, x_0, x_797, by unfold kD; decide +kernel⟩
theorem d_L_law_0 : decode code 0 = .ok (.new 8, 3) := by decide +kernel
theorem d_L_law_3 : decode code 3 = .ok (.dup, 1) := by decide +kernel
theorem d_L_law_4 : decode code 4 = .ok (.invokespecial 84, 3) := by decide +kernel
theorem d_L_law_7 : decode code 7 = .ok (.astore_n 1, 1) := by decide +kernel
theorem d_L_law_8 : decode code 8 = .ok (.new 85, 3) := by decide +kernel
theorem d_L_law_11 : decode code 11 = .ok (.dup, 1) := by decide +kernel
theorem d_L_law_12 : decode code 12 = .ok (.invokespecial 87, 3) := by decide +kernel
theorem d_L_law_15 : decode code 15 = .ok (.astore_n 2, 1) := by decide +kernel
theorem d_L_law_16 : decode code 16 = .ok (.iconst 1, 1) := by decide +kernel
theorem d_L_law_17 : decode code 17 = .ok (.newarray .long, 2) := by decide +kernel
theorem d_L_law_19 : decode code 19 = .ok (.astore_n 3, 1) := by decide +kernel
theorem d_L_law_20 : decode code 20 = .ok (.iconst 0, 1) := by decide +kernel
theorem d_L_law_21 : decode code 21 = .ok (.istore 4, 2) := by decide +kernel
theorem d_L_law_23 : decode code 23 = .ok (.iload 4, 2) := by decide +kernel
theorem d_L_law_25 : decode code 25 = .ok (.aload_n 0, 1) := by decide +kernel
theorem d_L_law_26 : decode code 26 = .ok (.arraylength, 1) := by decide +kernel
theorem d_L_law_27 : decode code 27 = .ok (.bipush 7, 2) := by decide +kernel
theorem d_L_law_29 : decode code 29 = .ok (.isub, 1) := by decide +kernel
theorem d_L_law_30 : decode code 30 = .ok (.if_icmp .gt 1415, 3) := by decide +kernel
theorem d_L_law_33 : decode code 33 = .ok (.aload_n 0, 1) := by decide +kernel
theorem d_L_law_34 : decode code 34 = .ok (.iload 4, 2) := by decide +kernel
theorem d_L_law_36 : decode code 36 = .ok (.iaload, 1) := by decide +kernel
theorem d_L_law_37 : decode code 37 = .ok (.bipush 31, 2) := by decide +kernel
theorem d_L_law_39 : decode code 39 = .ok (.iand, 1) := by decide +kernel
theorem d_L_law_40 : decode code 40 = .ok (.tableswitch 1399 0 22 #[108, 168, 204, 288, 348, 416, 484, 552, 620, 675, 738, 751, 764, 856, 912, 925, 993, 1091, 1147, 1203, 1259, 1327, 1363], 108) := by decide +kernel
theorem d_L_law_148 : decode code 148 = .ok (.aload_n 1, 1) := by decide +kernel
theorem d_L_law_149 : decode code 149 = .ok (.aload_n 0, 1) := by decide +kernel
theorem d_L_law_150 : decode code 150 = .ok (.iload 4, 2) := by decide +kernel
theorem d_L_law_152 : decode code 152 = .ok (.iconst 1, 1) := by decide +kernel
theorem d_L_law_153 : decode code 153 = .ok (.iadd, 1) := by decide +kernel
theorem d_L_law_154 : decode code 154 = .ok (.iaload, 1) := by decide +kernel
theorem d_L_law_155 : decode code 155 = .ok (.aload_n 0, 1) := by decide +kernel
theorem d_L_law_156 : decode code 156 = .ok (.iload 4, 2) := by decide +kernel
theorem d_L_law_158 : decode code 158 = .ok (.iconst 2, 1) := by decide +kernel
theorem d_L_law_159 : decode code 159 = .ok (.iadd, 1) := by decide +kernel
theorem d_L_law_160 : decode code 160 = .ok (.iaload, 1) := by decide +kernel
theorem d_L_law_161 : decode code 161 = .ok (.aload_n 0, 1) := by decide +kernel
theorem d_L_law_162 : decode code 162 = .ok (.iload 4, 2) := by decide +kernel
theorem d_L_law_164 : decode code 164 = .ok (.iconst 3, 1) := by decide +kernel
theorem d_L_law_165 : decode code 165 = .ok (.iadd, 1) := by decide +kernel
theorem d_L_law_166 : decode code 166 = .ok (.iaload, 1) := by decide +kernel
theorem d_L_law_167 : decode code 167 = .ok (.invokestatic 88, 3) := by decide +kernel
theorem d_L_law_170 : decode code 170 = .ok (.istore 5, 2) := by decide +kernel
theorem d_L_law_172 : decode code 172 = .ok (.aload_n 2, 1) := by decide +kernel
theorem d_L_law_173 : decode code 173 = .ok (.aload_n 0, 1) := by decide +kernel
theorem d_L_law_174 : decode code 174 = .ok (.iload 4, 2) := by decide +kernel
theorem d_L_law_176 : decode code 176 = .ok (.iconst 1, 1) := by decide +kernel
theorem d_L_law_177 : decode code 177 = .ok (.iadd, 1) := by decide +kernel
theorem d_L_law_178 : decode code 178 = .ok (.iaload, 1) := by decide +kernel
theorem d_L_law_179 : decode code 179 = .ok (.aload_n 0, 1) := by decide +kernel
theorem d_L_law_180 : decode code 180 = .ok (.iload 4, 2) := by decide +kernel
theorem d_L_law_182 : decode code 182 = .ok (.iconst 2, 1) := by decide +kernel
theorem d_L_law_183 : decode code 183 = .ok (.iadd, 1) := by decide +kernel
theorem d_L_law_184 : decode code 184 = .ok (.iaload, 1) := by decide +kernel
theorem d_L_law_185 : decode code 185 = .ok (.aload_n 0, 1) := by decide +kernel
theorem d_L_law_186 : decode code 186 = .ok (.iload 4, 2) := by decide +kernel
theorem d_L_law_188 : decode code 188 = .ok (.iconst 3, 1) := by decide +kernel
theorem d_L_law_189 : decode code 189 = .ok (.iadd, 1) := by decide +kernel
theorem d_L_law_190 : decode code 190 = .ok (.iaload, 1) := by decide +kernel
theorem d_L_law_191 : decode code 191 = .ok (.invokevirtual 93, 3) := by decide +kernel
theorem d_L_law_194 : decode code 194 = .ok (.aload_n 2, 1) := by decide +kernel
theorem d_L_law_195 : decode code 195 = .ok (.invokevirtual 94, 3) := by decide +kernel
theorem d_L_law_198 : decode code 198 = .ok (.iload 5, 2) := by decide +kernel
theorem d_L_law_200 : decode code 200 = .ok (.if_icmp .eq 5, 3) := by decide +kernel
theorem d_L_law_203 : decode code 203 = .ok (.iconst 0, 1) := by decide +kernel
theorem d_L_law_204 : decode code 204 = .ok (.ireturn, 1) := by decide +kernel
theorem d_L_law_205 : decode code 205 = .ok (.goto 1234, 3) := by decide +kernel
theorem d_L_law_208 : decode code 208 = .ok (.aload_n 1, 1) := by decide +kernel
theorem d_L_law_209 : decode code 209 = .ok (.aload_n 0, 1) := by decide +kernel
theorem d_L_law_210 : decode code 210 = .ok (.iload 4, 2) := by decide +kernel
theorem d_L_law_212 : decode code 212 = .ok (.iconst 1, 1) := by decide +kernel
theorem d_L_law_213 : decode code 213 = .ok (.iadd, 1) := by decide +kernel
theorem d_L_law_214 : decode code 214 = .ok (.iaload, 1) := by decide +kernel
theorem d_L_law_215 : decode code 215 = .ok (.invokestatic 98, 3) := by decide +kernel
theorem d_L_law_218 : decode code 218 = .ok (.istore 5, 2) := by decide +kernel
theorem d_L_law_220 : decode code 220 = .ok (.aload_n 2, 1) := by decide +kernel
theorem d_L_law_221 : decode code 221 = .ok (.aload_n 0, 1) := by decide +kernel
theorem d_L_law_222 : decode code 222 = .ok (.iload 4, 2) := by decide +kernel
theorem d_L_law_224 : decode code 224 = .ok (.iconst 1, 1) := by decide +kernel
theorem d_L_law_225 : decode code 225 = .ok (.iadd, 1) := by decide +kernel
theorem d_L_law_226 : decode code 226 = .ok (.iaload, 1) := by decide +kernel
theorem d_L_law_227 : decode code 227 = .ok (.invokevirtual 101, 3) := by decide +kernel
theorem d_L_law_230 : decode code 230 = .ok (.aload_n 2, 1) := by decide +kernel
theorem d_L_law_231 : decode code 231 = .ok (.invokevirtual 94, 3) := by decide +kernel
theorem d_L_law_234 : decode code 234 = .ok (.iload 5, 2) := by decide +kernel
theorem d_L_law_236 : decode code 236 = .ok (.if_icmp .eq 5, 3) := by decide +kernel
theorem d_L_law_239 : decode code 239 = .ok (.iconst 0, 1) := by decide +kernel
theorem d_L_law_240 : decode code 240 = .ok (.ireturn, 1) := by decide +kernel
theorem d_L_law_241 : decode code 241 = .ok (.goto 1198, 3) := by decide +kernel
theorem d_L_law_244 : decode code 244 = .ok (.aload_n 1, 1) := by decide +kernel
theorem d_L_law_245 : decode code 245 = .ok (.aload_n 0, 1) := by decide +kernel
theorem d_L_law_246 : decode code 246 = .ok (.iload 4, 2) := by decide +kernel
theorem d_L_law_248 : decode code 248 = .ok (.iconst 1, 1) := by decide +kernel
theorem d_L_law_249 : decode code 249 = .ok (.iadd, 1) := by decide +kernel
theorem d_L_law_250 : decode code 250 = .ok (.iaload, 1) := by decide +kernel
theorem d_L_law_251 : decode code 251 = .ok (.aload_n 0, 1) := by decide +kernel
theorem d_L_law_252 : decode code 252 = .ok (.iload 4, 2) := by decide +kernel
theorem d_L_law_254 : decode code 254 = .ok (.iconst 2, 1) := by decide +kernel
theorem d_L_law_255 : decode code 255 = .ok (.iadd, 1) := by decide +kernel
theorem d_L_law_256 : decode code 256 = .ok (.iaload, 1) := by decide +kernel
theorem d_L_law_257 : decode code 257 = .ok (.aload_n 0, 1) := by decide +kernel
theorem d_L_law_258 : decode code 258 = .ok (.iload 4, 2) := by decide +kernel
theorem d_L_law_260 : decode code 260 = .ok (.iconst 3, 1) := by decide +kernel
theorem d_L_law_261 : decode code 261 = .ok (.iadd, 1) := by decide +kernel
theorem d_L_law_262 : decode code 262 = .ok (.iaload, 1) := by decide +kernel
theorem d_L_law_263 : decode code 263 = .ok (.aload_n 0, 1) := by decide +kernel
theorem d_L_law_264 : decode code 264 = .ok (.iload 4, 2) := by decide +kernel
theorem d_L_law_266 : decode code 266 = .ok (.iconst 4, 1) := by decide +kernel
theorem d_L_law_267 : decode code 267 = .ok (.iadd, 1) := by decide +kernel
theorem d_L_law_268 : decode code 268 = .ok (.iaload, 1) := by decide +kernel
theorem d_L_law_269 : decode code 269 = .ok (.aload_n 0, 1) := by decide +kernel
theorem d_L_law_270 : decode code 270 = .ok (.iload 4, 2) := by decide +kernel
theorem d_L_law_272 : decode code 272 = .ok (.iconst 5, 1) := by decide +kernel
theorem d_L_law_273 : decode code 273 = .ok (.iadd, 1) := by decide +kernel
theorem d_L_law_274 : decode code 274 = .ok (.iaload, 1) := by decide +kernel
theorem d_L_law_275 : decode code 275 = .ok (.invokestatic 102, 3) := by decide +kernel
theorem d_L_law_278 : decode code 278 = .ok (.istore 5, 2) := by decide +kernel
theorem d_L_law_280 : decode code 280 = .ok (.aload_n 2, 1) := by decide +kernel
theorem d_L_law_281 : decode code 281 = .ok (.aload_n 0, 1) := by decide +kernel
theorem d_L_law_282 : decode code 282 = .ok (.iload 4, 2) := by decide +kernel
theorem d_L_law_284 : decode code 284 = .ok (.iconst 1, 1) := by decide +kernel
theorem d_L_law_285 : decode code 285 = .ok (.iadd, 1) := by decide +kernel
theorem d_L_law_286 : decode code 286 = .ok (.iaload, 1) := by decide +kernel
theorem d_L_law_287 : decode code 287 = .ok (.aload_n 0, 1) := by decide +kernel
theorem d_L_law_288 : decode code 288 = .ok (.iload 4, 2) := by decide +kernel
theorem d_L_law_290 : decode code 290 = .ok (.iconst 2, 1) := by decide +kernel
theorem d_L_law_291 : decode code 291 = .ok (.iadd, 1) := by decide +kernel
theorem d_L_law_292 : decode code 292 = .ok (.iaload, 1) := by decide +kernel
theorem d_L_law_293 : decode code 293 = .ok (.aload_n 0, 1) := by decide +kernel
theorem d_L_law_294 : decode code 294 = .ok (.iload 4, 2) := by decide +kernel
theorem d_L_law_296 : decode code 296 = .ok (.iconst 3, 1) := by decide +kernel
theorem d_L_law_297 : decode code 297 = .ok (.iadd, 1) := by decide +kernel
theorem d_L_law_298 : decode code 298 = .ok (.iaload, 1) := by decide +kernel
theorem d_L_law_299 : decode code 299 = .ok (.aload_n 0, 1) := by decide +kernel
theorem d_L_law_300 : decode code 300 = .ok (.iload 4, 2) := by decide +kernel
theorem d_L_law_302 : decode code 302 = .ok (.iconst 4, 1) := by decide +kernel
theorem d_L_law_303 : decode code 303 = .ok (.iadd, 1) := by decide +kernel
theorem d_L_law_304 : decode code 304 = .ok (.iaload, 1) := by decide +kernel
theorem d_L_law_305 : decode code 305 = .ok (.aload_n 0, 1) := by decide +kernel
theorem d_L_law_306 : decode code 306 = .ok (.iload 4, 2) := by decide +kernel
theorem d_L_law_308 : decode code 308 = .ok (.iconst 5, 1) := by decide +kernel
theorem d_L_law_309 : decode code 309 = .ok (.iadd, 1) := by decide +kernel
theorem d_L_law_310 : decode code 310 = .ok (.iaload, 1) := by decide +kernel
theorem d_L_law_311 : decode code 311 = .ok (.invokevirtual 105, 3) := by decide +kernel
theorem d_L_law_314 : decode code 314 = .ok (.aload_n 2, 1) := by decide +kernel
theorem d_L_law_315 : decode code 315 = .ok (.invokevirtual 94, 3) := by decide +kernel
theorem d_L_law_318 : decode code 318 = .ok (.iload 5, 2) := by decide +kernel
theorem d_L_law_320 : decode code 320 = .ok (.if_icmp .eq 5, 3) := by decide +kernel
theorem d_L_law_323 : decode code 323 = .ok (.iconst 0, 1) := by decide +kernel
theorem d_L_law_324 : decode code 324 = .ok (.ireturn, 1) := by decide +kernel
theorem d_L_law_325 : decode code 325 = .ok (.goto 1114, 3) := by decide +kernel
theorem d_L_law_328 : decode code 328 = .ok (.aload_n 1, 1) := by decide +kernel
theorem d_L_law_329 : decode code 329 = .ok (.aload_n 0, 1) := by decide +kernel
theorem d_L_law_330 : decode code 330 = .ok (.iload 4, 2) := by decide +kernel
theorem d_L_law_332 : decode code 332 = .ok (.iconst 1, 1) := by decide +kernel
theorem d_L_law_333 : decode code 333 = .ok (.iadd, 1) := by decide +kernel
theorem d_L_law_334 : decode code 334 = .ok (.iaload, 1) := by decide +kernel
theorem d_L_law_335 : decode code 335 = .ok (.aload_n 0, 1) := by decide +kernel
theorem d_L_law_336 : decode code 336 = .ok (.iload 4, 2) := by decide +kernel
theorem d_L_law_338 : decode code 338 = .ok (.iconst 2, 1) := by decide +kernel
theorem d_L_law_339 : decode code 339 = .ok (.iadd, 1) := by decide +kernel
theorem d_L_law_340 : decode code 340 = .ok (.iaload, 1) := by decide +kernel
theorem d_L_law_341 : decode code 341 = .ok (.aload_n 0, 1) := by decide +kernel
theorem d_L_law_342 : decode code 342 = .ok (.iload 4, 2) := by decide +kernel
theorem d_L_law_344 : decode code 344 = .ok (.iconst 3, 1) := by decide +kernel
theorem d_L_law_345 : decode code 345 = .ok (.iadd, 1) := by decide +kernel
theorem d_L_law_346 : decode code 346 = .ok (.iaload, 1) := by decide +kernel
theorem d_L_law_347 : decode code 347 = .ok (.invokestatic 106, 3) := by decide +kernel
theorem d_L_law_350 : decode code 350 = .ok (.istore 5, 2) := by decide +kernel
theorem d_L_law_352 : decode code 352 = .ok (.aload_n 2, 1) := by decide +kernel
theorem d_L_law_353 : decode code 353 = .ok (.aload_n 0, 1) := by decide +kernel
theorem d_L_law_354 : decode code 354 = .ok (.iload 4, 2) := by decide +kernel
theorem d_L_law_356 : decode code 356 = .ok (.iconst 1, 1) := by decide +kernel
theorem d_L_law_357 : decode code 357 = .ok (.iadd, 1) := by decide +kernel
theorem d_L_law_358 : decode code 358 = .ok (.iaload, 1) := by decide +kernel
theorem d_L_law_359 : decode code 359 = .ok (.aload_n 0, 1) := by decide +kernel
theorem d_L_law_360 : decode code 360 = .ok (.iload 4, 2) := by decide +kernel
theorem d_L_law_362 : decode code 362 = .ok (.iconst 2, 1) := by decide +kernel
theorem d_L_law_363 : decode code 363 = .ok (.iadd, 1) := by decide +kernel
theorem d_L_law_364 : decode code 364 = .ok (.iaload, 1) := by decide +kernel
theorem d_L_law_365 : decode code 365 = .ok (.aload_n 0, 1) := by decide +kernel
theorem d_L_law_366 : decode code 366 = .ok (.iload 4, 2) := by decide +kernel
theorem d_L_law_368 : decode code 368 = .ok (.iconst 3, 1) := by decide +kernel
theorem d_L_law_369 : decode code 369 = .ok (.iadd, 1) := by decide +kernel
theorem d_L_law_370 : decode code 370 = .ok (.iaload, 1) := by decide +kernel
theorem d_L_law_371 : decode code 371 = .ok (.invokevirtual 108, 3) := by decide +kernel
theorem d_L_law_374 : decode code 374 = .ok (.aload_n 2, 1) := by decide +kernel
theorem d_L_law_375 : decode code 375 = .ok (.invokevirtual 94, 3) := by decide +kernel
theorem d_L_law_378 : decode code 378 = .ok (.iload 5, 2) := by decide +kernel
theorem d_L_law_380 : decode code 380 = .ok (.if_icmp .eq 5, 3) := by decide +kernel
theorem d_L_law_383 : decode code 383 = .ok (.iconst 0, 1) := by decide +kernel
theorem d_L_law_384 : decode code 384 = .ok (.ireturn, 1) := by decide +kernel
theorem d_L_law_385 : decode code 385 = .ok (.goto 1054, 3) := by decide +kernel
theorem d_L_law_388 : decode code 388 = .ok (.aload_n 1, 1) := by decide +kernel
theorem d_L_law_389 : decode code 389 = .ok (.aload_n 0, 1) := by decide +kernel
theorem d_L_law_390 : decode code 390 = .ok (.iload 4, 2) := by decide +kernel
theorem d_L_law_392 : decode code 392 = .ok (.iconst 1, 1) := by decide +kernel
theorem d_L_law_393 : decode code 393 = .ok (.iadd, 1) := by decide +kernel
theorem d_L_law_394 : decode code 394 = .ok (.iaload, 1) := by decide +kernel
theorem d_L_law_395 : decode code 395 = .ok (.aload_n 0, 1) := by decide +kernel
theorem d_L_law_396 : decode code 396 = .ok (.iload 4, 2) := by decide +kernel
theorem d_L_law_398 : decode code 398 = .ok (.iconst 2, 1) := by decide +kernel
theorem d_L_law_399 : decode code 399 = .ok (.iadd, 1) := by decide +kernel
theorem d_L_law_400 : decode code 400 = .ok (.iaload, 1) := by decide +kernel
theorem d_L_law_401 : decode code 401 = .ok (.aload_n 3, 1) := by decide +kernel
theorem d_L_law_402 : decode code 402 = .ok (.invokestatic 109, 3) := by decide +kernel
theorem d_L_law_405 : decode code 405 = .ok (.istore 5, 2) := by decide +kernel
theorem d_L_law_407 : decode code 407 = .ok (.aload_n 2, 1) := by decide +kernel
theorem d_L_law_408 : decode code 408 = .ok (.aload_n 0, 1) := by decide +kernel
theorem d_L_law_409 : decode code 409 = .ok (.iload 4, 2) := by decide +kernel
theorem d_L_law_411 : decode code 411 = .ok (.iconst 1, 1) := by decide +kernel
theorem d_L_law_412 : decode code 412 = .ok (.iadd, 1) := by decide +kernel
theorem d_L_law_413 : decode code 413 = .ok (.iaload, 1) := by decide +kernel
theorem d_L_law_414 : decode code 414 = .ok (.aload_n 0, 1) := by decide +kernel
theorem d_L_law_415 : decode code 415 = .ok (.iload 4, 2) := by decide +kernel
theorem d_L_law_417 : decode code 417 = .ok (.iconst 2, 1) := by decide +kernel
theorem d_L_law_418 : decode code 418 = .ok (.iadd, 1) := by decide +kernel
theorem d_L_law_419 : decode code 419 = .ok (.iaload, 1) := by decide +kernel
theorem d_L_law_420 : decode code 420 = .ok (.invokevirtual 112, 3) := by decide +kernel
theorem d_L_law_423 : decode code 423 = .ok (.istore 6, 2) := by decide +kernel
theorem d_L_law_425 : decode code 425 = .ok (.aload_n 2, 1) := by decide +kernel
theorem d_L_law_426 : decode code 426 = .ok (.invokevirtual 94, 3) := by decide +kernel
theorem d_L_law_429 : decode code 429 = .ok (.iload 5, 2) := by decide +kernel
theorem d_L_law_431 : decode code 431 = .ok (.if_icmp .eq 5, 3) := by decide +kernel
theorem d_L_law_434 : decode code 434 = .ok (.iconst 0, 1) := by decide +kernel
theorem d_L_law_435 : decode code 435 = .ok (.ireturn, 1) := by decide +kernel
theorem d_L_law_436 : decode code 436 = .ok (.iload 5, 2) := by decide +kernel
theorem d_L_law_438 : decode code 438 = .ok (.ifCond .ne 15, 3) := by decide +kernel
theorem d_L_law_441 : decode code 441 = .ok (.aload_n 3, 1) := by decide +kernel
theorem d_L_law_442 : decode code 442 = .ok (.iconst 0, 1) := by decide +kernel
theorem d_L_law_443 : decode code 443 = .ok (.laload, 1) := by decide +kernel
theorem d_L_law_444 : decode code 444 = .ok (.iload 6, 2) := by decide +kernel
theorem d_L_law_446 : decode code 446 = .ok (.i2l, 1) := by decide +kernel
theorem d_L_law_447 : decode code 447 = .ok (.lcmp, 1) := by decide +kernel
theorem d_L_law_448 : decode code 448 = .ok (.ifCond .eq 5, 3) := by decide +kernel
theorem d_L_law_451 : decode code 451 = .ok (.iconst 0, 1) := by decide +kernel
theorem d_L_law_452 : decode code 452 = .ok (.ireturn, 1) := by decide +kernel
theorem d_L_law_453 : decode code 453 = .ok (.goto 986, 3) := by decide +kernel
theorem d_L_law_456 : decode code 456 = .ok (.aload_n 1, 1) := by decide +kernel
theorem d_L_law_457 : decode code 457 = .ok (.aload_n 0, 1) := by decide +kernel
theorem d_L_law_458 : decode code 458 = .ok (.iload 4, 2) := by decide +kernel
theorem d_L_law_460 : decode code 460 = .ok (.iconst 1, 1) := by decide +kernel
theorem d_L_law_461 : decode code 461 = .ok (.iadd, 1) := by decide +kernel
theorem d_L_law_462 : decode code 462 = .ok (.iaload, 1) := by decide +kernel
theorem d_L_law_463 : decode code 463 = .ok (.aload_n 0, 1) := by decide +kernel
theorem d_L_law_464 : decode code 464 = .ok (.iload 4, 2) := by decide +kernel
theorem d_L_law_466 : decode code 466 = .ok (.iconst 2, 1) := by decide +kernel
theorem d_L_law_467 : decode code 467 = .ok (.iadd, 1) := by decide +kernel
theorem d_L_law_468 : decode code 468 = .ok (.iaload, 1) := by decide +kernel
theorem d_L_law_469 : decode code 469 = .ok (.aload_n 3, 1) := by decide +kernel
theorem d_L_law_470 : decode code 470 = .ok (.invokestatic 113, 3) := by decide +kernel
theorem d_L_law_473 : decode code 473 = .ok (.istore 5, 2) := by decide +kernel
theorem d_L_law_475 : decode code 475 = .ok (.aload_n 2, 1) := by decide +kernel
theorem d_L_law_476 : decode code 476 = .ok (.aload_n 0, 1) := by decide +kernel
theorem d_L_law_477 : decode code 477 = .ok (.iload 4, 2) := by decide +kernel
theorem d_L_law_479 : decode code 479 = .ok (.iconst 1, 1) := by decide +kernel
theorem d_L_law_480 : decode code 480 = .ok (.iadd, 1) := by decide +kernel
theorem d_L_law_481 : decode code 481 = .ok (.iaload, 1) := by decide +kernel
theorem d_L_law_482 : decode code 482 = .ok (.aload_n 0, 1) := by decide +kernel
theorem d_L_law_483 : decode code 483 = .ok (.iload 4, 2) := by decide +kernel
theorem d_L_law_485 : decode code 485 = .ok (.iconst 2, 1) := by decide +kernel
theorem d_L_law_486 : decode code 486 = .ok (.iadd, 1) := by decide +kernel
theorem d_L_law_487 : decode code 487 = .ok (.iaload, 1) := by decide +kernel
theorem d_L_law_488 : decode code 488 = .ok (.invokevirtual 115, 3) := by decide +kernel
theorem d_L_law_491 : decode code 491 = .ok (.istore 6, 2) := by decide +kernel
theorem d_L_law_493 : decode code 493 = .ok (.aload_n 2, 1) := by decide +kernel
theorem d_L_law_494 : decode code 494 = .ok (.invokevirtual 94, 3) := by decide +kernel
theorem d_L_law_497 : decode code 497 = .ok (.iload 5, 2) := by decide +kernel
theorem d_L_law_499 : decode code 499 = .ok (.if_icmp .eq 5, 3) := by decide +kernel
theorem d_L_law_502 : decode code 502 = .ok (.iconst 0, 1) := by decide +kernel
theorem d_L_law_503 : decode code 503 = .ok (.ireturn, 1) := by decide +kernel
theorem d_L_law_504 : decode code 504 = .ok (.iload 5, 2) := by decide +kernel
theorem d_L_law_506 : decode code 506 = .ok (.ifCond .ne 15, 3) := by decide +kernel
theorem d_L_law_509 : decode code 509 = .ok (.aload_n 3, 1) := by decide +kernel
theorem d_L_law_510 : decode code 510 = .ok (.iconst 0, 1) := by decide +kernel
theorem d_L_law_511 : decode code 511 = .ok (.laload, 1) := by decide +kernel
theorem d_L_law_512 : decode code 512 = .ok (.iload 6, 2) := by decide +kernel
theorem d_L_law_514 : decode code 514 = .ok (.i2l, 1) := by decide +kernel
theorem d_L_law_515 : decode code 515 = .ok (.lcmp, 1) := by decide +kernel
theorem d_L_law_516 : decode code 516 = .ok (.ifCond .eq 5, 3) := by decide +kernel
theorem d_L_law_519 : decode code 519 = .ok (.iconst 0, 1) := by decide +kernel
theorem d_L_law_520 : decode code 520 = .ok (.ireturn, 1) := by decide +kernel
theorem d_L_law_521 : decode code 521 = .ok (.goto 918, 3) := by decide +kernel
theorem d_L_law_524 : decode code 524 = .ok (.aload_n 1, 1) := by decide +kernel
theorem d_L_law_525 : decode code 525 = .ok (.aload_n 0, 1) := by decide +kernel
theorem d_L_law_526 : decode code 526 = .ok (.iload 4, 2) := by decide +kernel
theorem d_L_law_528 : decode code 528 = .ok (.iconst 1, 1) := by decide +kernel
theorem d_L_law_529 : decode code 529 = .ok (.iadd, 1) := by decide +kernel
theorem d_L_law_530 : decode code 530 = .ok (.iaload, 1) := by decide +kernel
theorem d_L_law_531 : decode code 531 = .ok (.aload_n 0, 1) := by decide +kernel
theorem d_L_law_532 : decode code 532 = .ok (.iload 4, 2) := by decide +kernel
theorem d_L_law_534 : decode code 534 = .ok (.iconst 2, 1) := by decide +kernel
theorem d_L_law_535 : decode code 535 = .ok (.iadd, 1) := by decide +kernel
theorem d_L_law_536 : decode code 536 = .ok (.iaload, 1) := by decide +kernel
theorem d_L_law_537 : decode code 537 = .ok (.aload_n 3, 1) := by decide +kernel
theorem d_L_law_538 : decode code 538 = .ok (.invokestatic 116, 3) := by decide +kernel
theorem d_L_law_541 : decode code 541 = .ok (.istore 5, 2) := by decide +kernel
theorem d_L_law_543 : decode code 543 = .ok (.aload_n 2, 1) := by decide +kernel
theorem d_L_law_544 : decode code 544 = .ok (.aload_n 0, 1) := by decide +kernel
theorem d_L_law_545 : decode code 545 = .ok (.iload 4, 2) := by decide +kernel
theorem d_L_law_547 : decode code 547 = .ok (.iconst 1, 1) := by decide +kernel
theorem d_L_law_548 : decode code 548 = .ok (.iadd, 1) := by decide +kernel
theorem d_L_law_549 : decode code 549 = .ok (.iaload, 1) := by decide +kernel
theorem d_L_law_550 : decode code 550 = .ok (.aload_n 0, 1) := by decide +kernel
theorem d_L_law_551 : decode code 551 = .ok (.iload 4, 2) := by decide +kernel
theorem d_L_law_553 : decode code 553 = .ok (.iconst 2, 1) := by decide +kernel
theorem d_L_law_554 : decode code 554 = .ok (.iadd, 1) := by decide +kernel
theorem d_L_law_555 : decode code 555 = .ok (.iaload, 1) := by decide +kernel
theorem d_L_law_556 : decode code 556 = .ok (.invokevirtual 118, 3) := by decide +kernel
theorem d_L_law_559 : decode code 559 = .ok (.istore 6, 2) := by decide +kernel
theorem d_L_law_561 : decode code 561 = .ok (.aload_n 2, 1) := by decide +kernel
theorem d_L_law_562 : decode code 562 = .ok (.invokevirtual 94, 3) := by decide +kernel
theorem d_L_law_565 : decode code 565 = .ok (.iload 5, 2) := by decide +kernel
theorem d_L_law_567 : decode code 567 = .ok (.if_icmp .eq 5, 3) := by decide +kernel
theorem d_L_law_570 : decode code 570 = .ok (.iconst 0, 1) := by decide +kernel
theorem d_L_law_571 : decode code 571 = .ok (.ireturn, 1) := by decide +kernel
theorem d_L_law_572 : decode code 572 = .ok (.iload 5, 2) := by decide +kernel
theorem d_L_law_574 : decode code 574 = .ok (.ifCond .ne 15, 3) := by decide +kernel
theorem d_L_law_577 : decode code 577 = .ok (.aload_n 3, 1) := by decide +kernel
theorem d_L_law_578 : decode code 578 = .ok (.iconst 0, 1) := by decide +kernel
theorem d_L_law_579 : decode code 579 = .ok (.laload, 1) := by decide +kernel
theorem d_L_law_580 : decode code 580 = .ok (.iload 6, 2) := by decide +kernel
theorem d_L_law_582 : decode code 582 = .ok (.i2l, 1) := by decide +kernel
theorem d_L_law_583 : decode code 583 = .ok (.lcmp, 1) := by decide +kernel
theorem d_L_law_584 : decode code 584 = .ok (.ifCond .eq 5, 3) := by decide +kernel
theorem d_L_law_587 : decode code 587 = .ok (.iconst 0, 1) := by decide +kernel
theorem d_L_law_588 : decode code 588 = .ok (.ireturn, 1) := by decide +kernel
theorem d_L_law_589 : decode code 589 = .ok (.goto 850, 3) := by decide +kernel
theorem d_L_law_592 : decode code 592 = .ok (.aload_n 1, 1) := by decide +kernel
theorem d_L_law_593 : decode code 593 = .ok (.aload_n 0, 1) := by decide +kernel
theorem d_L_law_594 : decode code 594 = .ok (.iload 4, 2) := by decide +kernel
theorem d_L_law_596 : decode code 596 = .ok (.iconst 1, 1) := by decide +kernel
theorem d_L_law_597 : decode code 597 = .ok (.iadd, 1) := by decide +kernel
theorem d_L_law_598 : decode code 598 = .ok (.iaload, 1) := by decide +kernel
theorem d_L_law_599 : decode code 599 = .ok (.aload_n 0, 1) := by decide +kernel
theorem d_L_law_600 : decode code 600 = .ok (.iload 4, 2) := by decide +kernel
theorem d_L_law_602 : decode code 602 = .ok (.iconst 2, 1) := by decide +kernel
theorem d_L_law_603 : decode code 603 = .ok (.iadd, 1) := by decide +kernel
theorem d_L_law_604 : decode code 604 = .ok (.iaload, 1) := by decide +kernel
theorem d_L_law_605 : decode code 605 = .ok (.aload_n 3, 1) := by decide +kernel
theorem d_L_law_606 : decode code 606 = .ok (.invokestatic 119, 3) := by decide +kernel
theorem d_L_law_609 : decode code 609 = .ok (.istore 5, 2) := by decide +kernel
theorem d_L_law_611 : decode code 611 = .ok (.aload_n 2, 1) := by decide +kernel
theorem d_L_law_612 : decode code 612 = .ok (.aload_n 0, 1) := by decide +kernel
theorem d_L_law_613 : decode code 613 = .ok (.iload 4, 2) := by decide +kernel
theorem d_L_law_615 : decode code 615 = .ok (.iconst 1, 1) := by decide +kernel
theorem d_L_law_616 : decode code 616 = .ok (.iadd, 1) := by decide +kernel
theorem d_L_law_617 : decode code 617 = .ok (.iaload, 1) := by decide +kernel
theorem d_L_law_618 : decode code 618 = .ok (.aload_n 0, 1) := by decide +kernel
theorem d_L_law_619 : decode code 619 = .ok (.iload 4, 2) := by decide +kernel
theorem d_L_law_621 : decode code 621 = .ok (.iconst 2, 1) := by decide +kernel
theorem d_L_law_622 : decode code 622 = .ok (.iadd, 1) := by decide +kernel
theorem d_L_law_623 : decode code 623 = .ok (.iaload, 1) := by decide +kernel
theorem d_L_law_624 : decode code 624 = .ok (.invokevirtual 121, 3) := by decide +kernel
theorem d_L_law_627 : decode code 627 = .ok (.istore 6, 2) := by decide +kernel
theorem d_L_law_629 : decode code 629 = .ok (.aload_n 2, 1) := by decide +kernel
theorem d_L_law_630 : decode code 630 = .ok (.invokevirtual 94, 3) := by decide +kernel
theorem d_L_law_633 : decode code 633 = .ok (.iload 5, 2) := by decide +kernel
theorem d_L_law_635 : decode code 635 = .ok (.if_icmp .eq 5, 3) := by decide +kernel
theorem d_L_law_638 : decode code 638 = .ok (.iconst 0, 1) := by decide +kernel
theorem d_L_law_639 : decode code 639 = .ok (.ireturn, 1) := by decide +kernel
theorem d_L_law_640 : decode code 640 = .ok (.iload 5, 2) := by decide +kernel
theorem d_L_law_642 : decode code 642 = .ok (.ifCond .ne 15, 3) := by decide +kernel
theorem d_L_law_645 : decode code 645 = .ok (.aload_n 3, 1) := by decide +kernel
theorem d_L_law_646 : decode code 646 = .ok (.iconst 0, 1) := by decide +kernel
theorem d_L_law_647 : decode code 647 = .ok (.laload, 1) := by decide +kernel
theorem d_L_law_648 : decode code 648 = .ok (.iload 6, 2) := by decide +kernel
theorem d_L_law_650 : decode code 650 = .ok (.i2l, 1) := by decide +kernel
theorem d_L_law_651 : decode code 651 = .ok (.lcmp, 1) := by decide +kernel
theorem d_L_law_652 : decode code 652 = .ok (.ifCond .eq 5, 3) := by decide +kernel
theorem d_L_law_655 : decode code 655 = .ok (.iconst 0, 1) := by decide +kernel
theorem d_L_law_656 : decode code 656 = .ok (.ireturn, 1) := by decide +kernel
theorem d_L_law_657 : decode code 657 = .ok (.goto 782, 3) := by decide +kernel
theorem d_L_law_660 : decode code 660 = .ok (.aload_n 1, 1) := by decide +kernel
theorem d_L_law_661 : decode code 661 = .ok (.aload_n 0, 1) := by decide +kernel
theorem d_L_law_662 : decode code 662 = .ok (.iload 4, 2) := by decide +kernel
theorem d_L_law_664 : decode code 664 = .ok (.iconst 1, 1) := by decide +kernel
theorem d_L_law_665 : decode code 665 = .ok (.iadd, 1) := by decide +kernel
theorem d_L_law_666 : decode code 666 = .ok (.iaload, 1) := by decide +kernel
theorem d_L_law_667 : decode code 667 = .ok (.aload_n 3, 1) := by decide +kernel
theorem d_L_law_668 : decode code 668 = .ok (.invokestatic 122, 3) := by decide +kernel
theorem d_L_law_671 : decode code 671 = .ok (.istore 5, 2) := by decide +kernel
theorem d_L_law_673 : decode code 673 = .ok (.aload_n 2, 1) := by decide +kernel
theorem d_L_law_674 : decode code 674 = .ok (.aload_n 0, 1) := by decide +kernel
theorem d_L_law_675 : decode code 675 = .ok (.iload 4, 2) := by decide +kernel
theorem d_L_law_677 : decode code 677 = .ok (.iconst 1, 1) := by decide +kernel
theorem d_L_law_678 : decode code 678 = .ok (.iadd, 1) := by decide +kernel
theorem d_L_law_679 : decode code 679 = .ok (.iaload, 1) := by decide +kernel
theorem d_L_law_680 : decode code 680 = .ok (.invokevirtual 125, 3) := by decide +kernel
theorem d_L_law_683 : decode code 683 = .ok (.lstore 6, 2) := by decide +kernel
theorem d_L_law_685 : decode code 685 = .ok (.aload_n 2, 1) := by decide +kernel
theorem d_L_law_686 : decode code 686 = .ok (.invokevirtual 94, 3) := by decide +kernel
theorem d_L_law_689 : decode code 689 = .ok (.iload 5, 2) := by decide +kernel
theorem d_L_law_691 : decode code 691 = .ok (.if_icmp .eq 5, 3) := by decide +kernel
theorem d_L_law_694 : decode code 694 = .ok (.iconst 0, 1) := by decide +kernel
theorem d_L_law_695 : decode code 695 = .ok (.ireturn, 1) := by decide +kernel
theorem d_L_law_696 : decode code 696 = .ok (.iload 5, 2) := by decide +kernel
theorem d_L_law_698 : decode code 698 = .ok (.ifCond .ne 14, 3) := by decide +kernel
theorem d_L_law_701 : decode code 701 = .ok (.aload_n 3, 1) := by decide +kernel
theorem d_L_law_702 : decode code 702 = .ok (.iconst 0, 1) := by decide +kernel
theorem d_L_law_703 : decode code 703 = .ok (.laload, 1) := by decide +kernel
theorem d_L_law_704 : decode code 704 = .ok (.lload 6, 2) := by decide +kernel
theorem d_L_law_706 : decode code 706 = .ok (.lcmp, 1) := by decide +kernel
theorem d_L_law_707 : decode code 707 = .ok (.ifCond .eq 5, 3) := by decide +kernel
theorem d_L_law_710 : decode code 710 = .ok (.iconst 0, 1) := by decide +kernel
theorem d_L_law_711 : decode code 711 = .ok (.ireturn, 1) := by decide +kernel
theorem d_L_law_712 : decode code 712 = .ok (.goto 727, 3) := by decide +kernel
theorem d_L_law_715 : decode code 715 = .ok (.aload_n 1, 1) := by decide +kernel
theorem d_L_law_716 : decode code 716 = .ok (.aload_n 0, 1) := by decide +kernel
theorem d_L_law_717 : decode code 717 = .ok (.iload 4, 2) := by decide +kernel
theorem d_L_law_719 : decode code 719 = .ok (.iconst 1, 1) := by decide +kernel
theorem d_L_law_720 : decode code 720 = .ok (.iadd, 1) := by decide +kernel
theorem d_L_law_721 : decode code 721 = .ok (.iaload, 1) := by decide +kernel
theorem d_L_law_722 : decode code 722 = .ok (.aload_n 3, 1) := by decide +kernel
theorem d_L_law_723 : decode code 723 = .ok (.invokestatic 126, 3) := by decide +kernel
theorem d_L_law_726 : decode code 726 = .ok (.istore 5, 2) := by decide +kernel
theorem d_L_law_728 : decode code 728 = .ok (.aload_n 2, 1) := by decide +kernel
theorem d_L_law_729 : decode code 729 = .ok (.aload_n 0, 1) := by decide +kernel
theorem d_L_law_730 : decode code 730 = .ok (.iload 4, 2) := by decide +kernel
theorem d_L_law_732 : decode code 732 = .ok (.iconst 1, 1) := by decide +kernel
theorem d_L_law_733 : decode code 733 = .ok (.iadd, 1) := by decide +kernel
theorem d_L_law_734 : decode code 734 = .ok (.iaload, 1) := by decide +kernel
theorem d_L_law_735 : decode code 735 = .ok (.invokevirtual 128, 3) := by decide +kernel
theorem d_L_law_738 : decode code 738 = .ok (.istore 6, 2) := by decide +kernel
theorem d_L_law_740 : decode code 740 = .ok (.aload_n 2, 1) := by decide +kernel
theorem d_L_law_741 : decode code 741 = .ok (.invokevirtual 94, 3) := by decide +kernel
theorem d_L_law_744 : decode code 744 = .ok (.iload 5, 2) := by decide +kernel
theorem d_L_law_746 : decode code 746 = .ok (.if_icmp .eq 5, 3) := by decide +kernel
theorem d_L_law_749 : decode code 749 = .ok (.iconst 0, 1) := by decide +kernel
theorem d_L_law_750 : decode code 750 = .ok (.ireturn, 1) := by decide +kernel
theorem d_L_law_751 : decode code 751 = .ok (.iload 5, 2) := by decide +kernel
theorem d_L_law_753 : decode code 753 = .ok (.ifCond .ne 22, 3) := by decide +kernel
theorem d_L_law_756 : decode code 756 = .ok (.aload_n 3, 1) := by decide +kernel
theorem d_L_law_757 : decode code 757 = .ok (.iconst 0, 1) := by decide +kernel
theorem d_L_law_758 : decode code 758 = .ok (.laload, 1) := by decide +kernel
theorem d_L_law_759 : decode code 759 = .ok (.iload 6, 2) := by decide +kernel
theorem d_L_law_761 : decode code 761 = .ok (.ifCond .eq 7, 3) := by decide +kernel
theorem d_L_law_764 : decode code 764 = .ok (.lconst 1, 1) := by decide +kernel
theorem d_L_law_765 : decode code 765 = .ok (.goto 4, 3) := by decide +kernel
theorem d_L_law_768 : decode code 768 = .ok (.lconst 0, 1) := by decide +kernel
theorem d_L_law_769 : decode code 769 = .ok (.lcmp, 1) := by decide +kernel
theorem d_L_law_770 : decode code 770 = .ok (.ifCond .eq 5, 3) := by decide +kernel
theorem d_L_law_773 : decode code 773 = .ok (.iconst 0, 1) := by decide +kernel
theorem d_L_law_774 : decode code 774 = .ok (.ireturn, 1) := by decide +kernel
theorem d_L_law_775 : decode code 775 = .ok (.goto 664, 3) := by decide +kernel
theorem d_L_law_778 : decode code 778 = .ok (.aload_n 1, 1) := by decide +kernel
theorem d_L_law_779 : decode code 779 = .ok (.invokevirtual 129, 3) := by decide +kernel
theorem d_L_law_782 : decode code 782 = .ok (.aload_n 2, 1) := by decide +kernel
theorem d_L_law_783 : decode code 783 = .ok (.invokevirtual 132, 3) := by decide +kernel
theorem d_L_law_786 : decode code 786 = .ok (.if_icmp .eq 653, 3) := by decide +kernel
theorem d_L_law_789 : decode code 789 = .ok (.iconst 0, 1) := by decide +kernel
theorem d_L_law_790 : decode code 790 = .ok (.ireturn, 1) := by decide +kernel
theorem d_L_law_791 : decode code 791 = .ok (.aload_n 1, 1) := by decide +kernel
theorem d_L_law_792 : decode code 792 = .ok (.invokevirtual 133, 3) := by decide +kernel
theorem d_L_law_795 : decode code 795 = .ok (.aload_n 2, 1) := by decide +kernel
theorem d_L_law_796 : decode code 796 = .ok (.invokevirtual 136, 3) := by decide +kernel
theorem d_L_law_799 : decode code 799 = .ok (.if_icmp .eq 640, 3) := by decide +kernel
theorem d_L_law_802 : decode code 802 = .ok (.iconst 0, 1) := by decide +kernel
theorem d_L_law_803 : decode code 803 = .ok (.ireturn, 1) := by decide +kernel
theorem d_L_law_804 : decode code 804 = .ok (.aload_n 1, 1) := by decide +kernel
theorem d_L_law_805 : decode code 805 = .ok (.aload_n 0, 1) := by decide +kernel
theorem d_L_law_806 : decode code 806 = .ok (.iload 4, 2) := by decide +kernel
theorem d_L_law_808 : decode code 808 = .ok (.iconst 1, 1) := by decide +kernel
theorem d_L_law_809 : decode code 809 = .ok (.iadd, 1) := by decide +kernel
theorem d_L_law_810 : decode code 810 = .ok (.iaload, 1) := by decide +kernel
theorem d_L_law_811 : decode code 811 = .ok (.aload_n 0, 1) := by decide +kernel
theorem d_L_law_812 : decode code 812 = .ok (.iload 4, 2) := by decide +kernel
theorem d_L_law_814 : decode code 814 = .ok (.iconst 2, 1) := by decide +kernel
theorem d_L_law_815 : decode code 815 = .ok (.iadd, 1) := by decide +kernel
theorem d_L_law_816 : decode code 816 = .ok (.iaload, 1) := by decide +kernel
theorem d_L_law_817 : decode code 817 = .ok (.aload_n 0, 1) := by decide +kernel
theorem d_L_law_818 : decode code 818 = .ok (.iload 4, 2) := by decide +kernel
theorem d_L_law_820 : decode code 820 = .ok (.iconst 3, 1) := by decide +kernel
theorem d_L_law_821 : decode code 821 = .ok (.iadd, 1) := by decide +kernel
theorem d_L_law_822 : decode code 822 = .ok (.iaload, 1) := by decide +kernel
theorem d_L_law_823 : decode code 823 = .ok (.aload_n 0, 1) := by decide +kernel
theorem d_L_law_824 : decode code 824 = .ok (.iload 4, 2) := by decide +kernel
theorem d_L_law_826 : decode code 826 = .ok (.iconst 4, 1) := by decide +kernel
theorem d_L_law_827 : decode code 827 = .ok (.iadd, 1) := by decide +kernel
theorem d_L_law_828 : decode code 828 = .ok (.iaload, 1) := by decide +kernel
theorem d_L_law_829 : decode code 829 = .ok (.aload_n 3, 1) := by decide +kernel
theorem d_L_law_830 : decode code 830 = .ok (.invokestatic 137, 3) := by decide +kernel
theorem d_L_law_833 : decode code 833 = .ok (.istore 5, 2) := by decide +kernel
theorem d_L_law_835 : decode code 835 = .ok (.aload_n 2, 1) := by decide +kernel
theorem d_L_law_836 : decode code 836 = .ok (.aload_n 0, 1) := by decide +kernel
theorem d_L_law_837 : decode code 837 = .ok (.iload 4, 2) := by decide +kernel
theorem d_L_law_839 : decode code 839 = .ok (.iconst 1, 1) := by decide +kernel
theorem d_L_law_840 : decode code 840 = .ok (.iadd, 1) := by decide +kernel
theorem d_L_law_841 : decode code 841 = .ok (.iaload, 1) := by decide +kernel
theorem d_L_law_842 : decode code 842 = .ok (.aload_n 0, 1) := by decide +kernel
theorem d_L_law_843 : decode code 843 = .ok (.iload 4, 2) := by decide +kernel
theorem d_L_law_845 : decode code 845 = .ok (.iconst 2, 1) := by decide +kernel
theorem d_L_law_846 : decode code 846 = .ok (.iadd, 1) := by decide +kernel
theorem d_L_law_847 : decode code 847 = .ok (.iaload, 1) := by decide +kernel
theorem d_L_law_848 : decode code 848 = .ok (.aload_n 0, 1) := by decide +kernel
theorem d_L_law_849 : decode code 849 = .ok (.iload 4, 2) := by decide +kernel
theorem d_L_law_851 : decode code 851 = .ok (.iconst 3, 1) := by decide +kernel
theorem d_L_law_852 : decode code 852 = .ok (.iadd, 1) := by decide +kernel
theorem d_L_law_853 : decode code 853 = .ok (.iaload, 1) := by decide +kernel
theorem d_L_law_854 : decode code 854 = .ok (.aload_n 0, 1) := by decide +kernel
theorem d_L_law_855 : decode code 855 = .ok (.iload 4, 2) := by decide +kernel
theorem d_L_law_857 : decode code 857 = .ok (.iconst 4, 1) := by decide +kernel
theorem d_L_law_858 : decode code 858 = .ok (.iadd, 1) := by decide +kernel
theorem d_L_law_859 : decode code 859 = .ok (.iaload, 1) := by decide +kernel
theorem d_L_law_860 : decode code 860 = .ok (.invokevirtual 140, 3) := by decide +kernel
theorem d_L_law_863 : decode code 863 = .ok (.istore 6, 2) := by decide +kernel
theorem d_L_law_865 : decode code 865 = .ok (.aload_n 2, 1) := by decide +kernel
theorem d_L_law_866 : decode code 866 = .ok (.invokevirtual 94, 3) := by decide +kernel
theorem d_L_law_869 : decode code 869 = .ok (.iload 5, 2) := by decide +kernel
theorem d_L_law_871 : decode code 871 = .ok (.if_icmp .eq 5, 3) := by decide +kernel
theorem d_L_law_874 : decode code 874 = .ok (.iconst 0, 1) := by decide +kernel
theorem d_L_law_875 : decode code 875 = .ok (.ireturn, 1) := by decide +kernel
theorem d_L_law_876 : decode code 876 = .ok (.iload 5, 2) := by decide +kernel
theorem d_L_law_878 : decode code 878 = .ok (.ifCond .ne 15, 3) := by decide +kernel
theorem d_L_law_881 : decode code 881 = .ok (.aload_n 3, 1) := by decide +kernel
theorem d_L_law_882 : decode code 882 = .ok (.iconst 0, 1) := by decide +kernel
theorem d_L_law_883 : decode code 883 = .ok (.laload, 1) := by decide +kernel
theorem d_L_law_884 : decode code 884 = .ok (.iload 6, 2) := by decide +kernel
theorem d_L_law_886 : decode code 886 = .ok (.i2l, 1) := by decide +kernel
theorem d_L_law_887 : decode code 887 = .ok (.lcmp, 1) := by decide +kernel
theorem d_L_law_888 : decode code 888 = .ok (.ifCond .eq 5, 3) := by decide +kernel
theorem d_L_law_891 : decode code 891 = .ok (.iconst 0, 1) := by decide +kernel
theorem d_L_law_892 : decode code 892 = .ok (.ireturn, 1) := by decide +kernel
theorem d_L_law_893 : decode code 893 = .ok (.goto 546, 3) := by decide +kernel
theorem d_L_law_896 : decode code 896 = .ok (.aload_n 1, 1) := by decide +kernel
theorem d_L_law_897 : decode code 897 = .ok (.aload_n 0, 1) := by decide +kernel
theorem d_L_law_898 : decode code 898 = .ok (.iload 4, 2) := by decide +kernel
theorem d_L_law_900 : decode code 900 = .ok (.iconst 1, 1) := by decide +kernel
theorem d_L_law_901 : decode code 901 = .ok (.iadd, 1) := by decide +kernel
theorem d_L_law_902 : decode code 902 = .ok (.iaload, 1) := by decide +kernel
theorem d_L_law_903 : decode code 903 = .ok (.aload_n 3, 1) := by decide +kernel
theorem d_L_law_904 : decode code 904 = .ok (.invokestatic 141, 3) := by decide +kernel
theorem d_L_law_907 : decode code 907 = .ok (.istore 5, 2) := by decide +kernel
theorem d_L_law_909 : decode code 909 = .ok (.aload_n 2, 1) := by decide +kernel
theorem d_L_law_910 : decode code 910 = .ok (.aload_n 0, 1) := by decide +kernel
theorem d_L_law_911 : decode code 911 = .ok (.iload 4, 2) := by decide +kernel
theorem d_L_law_913 : decode code 913 = .ok (.iconst 1, 1) := by decide +kernel
theorem d_L_law_914 : decode code 914 = .ok (.iadd, 1) := by decide +kernel
theorem d_L_law_915 : decode code 915 = .ok (.iaload, 1) := by decide +kernel
theorem d_L_law_916 : decode code 916 = .ok (.invokevirtual 143, 3) := by decide +kernel
theorem d_L_law_919 : decode code 919 = .ok (.istore 6, 2) := by decide +kernel
theorem d_L_law_921 : decode code 921 = .ok (.aload_n 2, 1) := by decide +kernel
theorem d_L_law_922 : decode code 922 = .ok (.invokevirtual 94, 3) := by decide +kernel
theorem d_L_law_925 : decode code 925 = .ok (.iload 5, 2) := by decide +kernel
theorem d_L_law_927 : decode code 927 = .ok (.if_icmp .eq 5, 3) := by decide +kernel
theorem d_L_law_930 : decode code 930 = .ok (.iconst 0, 1) := by decide +kernel
theorem d_L_law_931 : decode code 931 = .ok (.ireturn, 1) := by decide +kernel
theorem d_L_law_932 : decode code 932 = .ok (.iload 5, 2) := by decide +kernel
theorem d_L_law_934 : decode code 934 = .ok (.ifCond .ne 15, 3) := by decide +kernel
theorem d_L_law_937 : decode code 937 = .ok (.aload_n 3, 1) := by decide +kernel
theorem d_L_law_938 : decode code 938 = .ok (.iconst 0, 1) := by decide +kernel
theorem d_L_law_939 : decode code 939 = .ok (.laload, 1) := by decide +kernel
theorem d_L_law_940 : decode code 940 = .ok (.iload 6, 2) := by decide +kernel
theorem d_L_law_942 : decode code 942 = .ok (.i2l, 1) := by decide +kernel
theorem d_L_law_943 : decode code 943 = .ok (.lcmp, 1) := by decide +kernel
theorem d_L_law_944 : decode code 944 = .ok (.ifCond .eq 5, 3) := by decide +kernel
theorem d_L_law_947 : decode code 947 = .ok (.iconst 0, 1) := by decide +kernel
theorem d_L_law_948 : decode code 948 = .ok (.ireturn, 1) := by decide +kernel
theorem d_L_law_949 : decode code 949 = .ok (.goto 490, 3) := by decide +kernel
theorem d_L_law_952 : decode code 952 = .ok (.aload_n 1, 1) := by decide +kernel
theorem d_L_law_953 : decode code 953 = .ok (.invokevirtual 144, 3) := by decide +kernel
theorem d_L_law_956 : decode code 956 = .ok (.aload_n 2, 1) := by decide +kernel
theorem d_L_law_957 : decode code 957 = .ok (.invokevirtual 147, 3) := by decide +kernel
theorem d_L_law_960 : decode code 960 = .ok (.if_icmp .eq 479, 3) := by decide +kernel
theorem d_L_law_963 : decode code 963 = .ok (.iconst 0, 1) := by decide +kernel
theorem d_L_law_964 : decode code 964 = .ok (.ireturn, 1) := by decide +kernel
theorem d_L_law_965 : decode code 965 = .ok (.aload_n 1, 1) := by decide +kernel
theorem d_L_law_966 : decode code 966 = .ok (.aload_n 0, 1) := by decide +kernel
theorem d_L_law_967 : decode code 967 = .ok (.iload 4, 2) := by decide +kernel
theorem d_L_law_969 : decode code 969 = .ok (.iconst 1, 1) := by decide +kernel
theorem d_L_law_970 : decode code 970 = .ok (.iadd, 1) := by decide +kernel
theorem d_L_law_971 : decode code 971 = .ok (.iaload, 1) := by decide +kernel
theorem d_L_law_972 : decode code 972 = .ok (.aload_n 0, 1) := by decide +kernel
theorem d_L_law_973 : decode code 973 = .ok (.iload 4, 2) := by decide +kernel
theorem d_L_law_975 : decode code 975 = .ok (.iconst 2, 1) := by decide +kernel
theorem d_L_law_976 : decode code 976 = .ok (.iadd, 1) := by decide +kernel
theorem d_L_law_977 : decode code 977 = .ok (.iaload, 1) := by decide +kernel
theorem d_L_law_978 : decode code 978 = .ok (.aload_n 3, 1) := by decide +kernel
theorem d_L_law_979 : decode code 979 = .ok (.invokestatic 148, 3) := by decide +kernel
theorem d_L_law_982 : decode code 982 = .ok (.istore 5, 2) := by decide +kernel
theorem d_L_law_984 : decode code 984 = .ok (.aload_n 2, 1) := by decide +kernel
theorem d_L_law_985 : decode code 985 = .ok (.aload_n 0, 1) := by decide +kernel
theorem d_L_law_986 : decode code 986 = .ok (.iload 4, 2) := by decide +kernel
theorem d_L_law_988 : decode code 988 = .ok (.iconst 1, 1) := by decide +kernel
theorem d_L_law_989 : decode code 989 = .ok (.iadd, 1) := by decide +kernel
theorem d_L_law_990 : decode code 990 = .ok (.iaload, 1) := by decide +kernel
theorem d_L_law_991 : decode code 991 = .ok (.aload_n 0, 1) := by decide +kernel
theorem d_L_law_992 : decode code 992 = .ok (.iload 4, 2) := by decide +kernel
theorem d_L_law_994 : decode code 994 = .ok (.iconst 2, 1) := by decide +kernel
theorem d_L_law_995 : decode code 995 = .ok (.iadd, 1) := by decide +kernel
theorem d_L_law_996 : decode code 996 = .ok (.iaload, 1) := by decide +kernel
theorem d_L_law_997 : decode code 997 = .ok (.invokevirtual 150, 3) := by decide +kernel
theorem d_L_law_1000 : decode code 1000 = .ok (.istore 6, 2) := by decide +kernel
theorem d_L_law_1002 : decode code 1002 = .ok (.aload_n 2, 1) := by decide +kernel
theorem d_L_law_1003 : decode code 1003 = .ok (.invokevirtual 94, 3) := by decide +kernel
theorem d_L_law_1006 : decode code 1006 = .ok (.iload 5, 2) := by decide +kernel
theorem d_L_law_1008 : decode code 1008 = .ok (.if_icmp .eq 5, 3) := by decide +kernel
theorem d_L_law_1011 : decode code 1011 = .ok (.iconst 0, 1) := by decide +kernel
theorem d_L_law_1012 : decode code 1012 = .ok (.ireturn, 1) := by decide +kernel
theorem d_L_law_1013 : decode code 1013 = .ok (.iload 5, 2) := by decide +kernel
theorem d_L_law_1015 : decode code 1015 = .ok (.ifCond .ne 15, 3) := by decide +kernel
theorem d_L_law_1018 : decode code 1018 = .ok (.aload_n 3, 1) := by decide +kernel
theorem d_L_law_1019 : decode code 1019 = .ok (.iconst 0, 1) := by decide +kernel
theorem d_L_law_1020 : decode code 1020 = .ok (.laload, 1) := by decide +kernel
theorem d_L_law_1021 : decode code 1021 = .ok (.iload 6, 2) := by decide +kernel
theorem d_L_law_1023 : decode code 1023 = .ok (.i2l, 1) := by decide +kernel
theorem d_L_law_1024 : decode code 1024 = .ok (.lcmp, 1) := by decide +kernel
theorem d_L_law_1025 : decode code 1025 = .ok (.ifCond .eq 5, 3) := by decide +kernel
theorem d_L_law_1028 : decode code 1028 = .ok (.iconst 0, 1) := by decide +kernel
theorem d_L_law_1029 : decode code 1029 = .ok (.ireturn, 1) := by decide +kernel
theorem d_L_law_1030 : decode code 1030 = .ok (.goto 409, 3) := by decide +kernel
theorem d_L_law_1033 : decode code 1033 = .ok (.aload_n 1, 1) := by decide +kernel
theorem d_L_law_1034 : decode code 1034 = .ok (.aload_n 0, 1) := by decide +kernel
theorem d_L_law_1035 : decode code 1035 = .ok (.iload 4, 2) := by decide +kernel
theorem d_L_law_1037 : decode code 1037 = .ok (.iconst 1, 1) := by decide +kernel
theorem d_L_law_1038 : decode code 1038 = .ok (.iadd, 1) := by decide +kernel
theorem d_L_law_1039 : decode code 1039 = .ok (.iaload, 1) := by decide +kernel
theorem d_L_law_1040 : decode code 1040 = .ok (.aload_n 0, 1) := by decide +kernel
theorem d_L_law_1041 : decode code 1041 = .ok (.iload 4, 2) := by decide +kernel
theorem d_L_law_1043 : decode code 1043 = .ok (.iconst 2, 1) := by decide +kernel
theorem d_L_law_1044 : decode code 1044 = .ok (.iadd, 1) := by decide +kernel
theorem d_L_law_1045 : decode code 1045 = .ok (.iaload, 1) := by decide +kernel
theorem d_L_law_1046 : decode code 1046 = .ok (.aload_n 0, 1) := by decide +kernel
theorem d_L_law_1047 : decode code 1047 = .ok (.iload 4, 2) := by decide +kernel
theorem d_L_law_1049 : decode code 1049 = .ok (.iconst 3, 1) := by decide +kernel
theorem d_L_law_1050 : decode code 1050 = .ok (.iadd, 1) := by decide +kernel
theorem d_L_law_1051 : decode code 1051 = .ok (.iaload, 1) := by decide +kernel
theorem d_L_law_1052 : decode code 1052 = .ok (.aload_n 0, 1) := by decide +kernel
theorem d_L_law_1053 : decode code 1053 = .ok (.iload 4, 2) := by decide +kernel
theorem d_L_law_1055 : decode code 1055 = .ok (.iconst 4, 1) := by decide +kernel
theorem d_L_law_1056 : decode code 1056 = .ok (.iadd, 1) := by decide +kernel
theorem d_L_law_1057 : decode code 1057 = .ok (.iaload, 1) := by decide +kernel
theorem d_L_law_1058 : decode code 1058 = .ok (.aload_n 0, 1) := by decide +kernel
theorem d_L_law_1059 : decode code 1059 = .ok (.iload 4, 2) := by decide +kernel
theorem d_L_law_1061 : decode code 1061 = .ok (.iconst 5, 1) := by decide +kernel
theorem d_L_law_1062 : decode code 1062 = .ok (.iadd, 1) := by decide +kernel
theorem d_L_law_1063 : decode code 1063 = .ok (.iaload, 1) := by decide +kernel
theorem d_L_law_1064 : decode code 1064 = .ok (.aload_n 0, 1) := by decide +kernel
theorem d_L_law_1065 : decode code 1065 = .ok (.iload 4, 2) := by decide +kernel
theorem d_L_law_1067 : decode code 1067 = .ok (.bipush 6, 2) := by decide +kernel
theorem d_L_law_1069 : decode code 1069 = .ok (.iadd, 1) := by decide +kernel
theorem d_L_law_1070 : decode code 1070 = .ok (.iaload, 1) := by decide +kernel
theorem d_L_law_1071 : decode code 1071 = .ok (.invokestatic 151, 3) := by decide +kernel
theorem d_L_law_1074 : decode code 1074 = .ok (.istore 5, 2) := by decide +kernel
theorem d_L_law_1076 : decode code 1076 = .ok (.aload_n 2, 1) := by decide +kernel
theorem d_L_law_1077 : decode code 1077 = .ok (.aload_n 0, 1) := by decide +kernel
theorem d_L_law_1078 : decode code 1078 = .ok (.iload 4, 2) := by decide +kernel
theorem d_L_law_1080 : decode code 1080 = .ok (.iconst 1, 1) := by decide +kernel
theorem d_L_law_1081 : decode code 1081 = .ok (.iadd, 1) := by decide +kernel
theorem d_L_law_1082 : decode code 1082 = .ok (.iaload, 1) := by decide +kernel
theorem d_L_law_1083 : decode code 1083 = .ok (.aload_n 0, 1) := by decide +kernel
theorem d_L_law_1084 : decode code 1084 = .ok (.iload 4, 2) := by decide +kernel
theorem d_L_law_1086 : decode code 1086 = .ok (.iconst 2, 1) := by decide +kernel
theorem d_L_law_1087 : decode code 1087 = .ok (.iadd, 1) := by decide +kernel
theorem d_L_law_1088 : decode code 1088 = .ok (.iaload, 1) := by decide +kernel
theorem d_L_law_1089 : decode code 1089 = .ok (.aload_n 0, 1) := by decide +kernel
theorem d_L_law_1090 : decode code 1090 = .ok (.iload 4, 2) := by decide +kernel
theorem d_L_law_1092 : decode code 1092 = .ok (.iconst 3, 1) := by decide +kernel
theorem d_L_law_1093 : decode code 1093 = .ok (.iadd, 1) := by decide +kernel
theorem d_L_law_1094 : decode code 1094 = .ok (.iaload, 1) := by decide +kernel
theorem d_L_law_1095 : decode code 1095 = .ok (.aload_n 0, 1) := by decide +kernel
theorem d_L_law_1096 : decode code 1096 = .ok (.iload 4, 2) := by decide +kernel
theorem d_L_law_1098 : decode code 1098 = .ok (.iconst 4, 1) := by decide +kernel
theorem d_L_law_1099 : decode code 1099 = .ok (.iadd, 1) := by decide +kernel
theorem d_L_law_1100 : decode code 1100 = .ok (.iaload, 1) := by decide +kernel
theorem d_L_law_1101 : decode code 1101 = .ok (.aload_n 0, 1) := by decide +kernel
theorem d_L_law_1102 : decode code 1102 = .ok (.iload 4, 2) := by decide +kernel
theorem d_L_law_1104 : decode code 1104 = .ok (.iconst 5, 1) := by decide +kernel
theorem d_L_law_1105 : decode code 1105 = .ok (.iadd, 1) := by decide +kernel
theorem d_L_law_1106 : decode code 1106 = .ok (.iaload, 1) := by decide +kernel
theorem d_L_law_1107 : decode code 1107 = .ok (.aload_n 0, 1) := by decide +kernel
theorem d_L_law_1108 : decode code 1108 = .ok (.iload 4, 2) := by decide +kernel
theorem d_L_law_1110 : decode code 1110 = .ok (.bipush 6, 2) := by decide +kernel
theorem d_L_law_1112 : decode code 1112 = .ok (.iadd, 1) := by decide +kernel
theorem d_L_law_1113 : decode code 1113 = .ok (.iaload, 1) := by decide +kernel
theorem d_L_law_1114 : decode code 1114 = .ok (.invokevirtual 154, 3) := by decide +kernel
theorem d_L_law_1117 : decode code 1117 = .ok (.aload_n 2, 1) := by decide +kernel
theorem d_L_law_1118 : decode code 1118 = .ok (.invokevirtual 94, 3) := by decide +kernel
theorem d_L_law_1121 : decode code 1121 = .ok (.iload 5, 2) := by decide +kernel
theorem d_L_law_1123 : decode code 1123 = .ok (.if_icmp .eq 5, 3) := by decide +kernel
theorem d_L_law_1126 : decode code 1126 = .ok (.iconst 0, 1) := by decide +kernel
theorem d_L_law_1127 : decode code 1127 = .ok (.ireturn, 1) := by decide +kernel
theorem d_L_law_1128 : decode code 1128 = .ok (.goto 311, 3) := by decide +kernel
theorem d_L_law_1131 : decode code 1131 = .ok (.aload_n 1, 1) := by decide +kernel
theorem d_L_law_1132 : decode code 1132 = .ok (.aload_n 0, 1) := by decide +kernel
theorem d_L_law_1133 : decode code 1133 = .ok (.iload 4, 2) := by decide +kernel
theorem d_L_law_1135 : decode code 1135 = .ok (.iconst 1, 1) := by decide +kernel
theorem d_L_law_1136 : decode code 1136 = .ok (.iadd, 1) := by decide +kernel
theorem d_L_law_1137 : decode code 1137 = .ok (.iaload, 1) := by decide +kernel
theorem d_L_law_1138 : decode code 1138 = .ok (.aload_n 3, 1) := by decide +kernel
theorem d_L_law_1139 : decode code 1139 = .ok (.invokestatic 155, 3) := by decide +kernel
theorem d_L_law_1142 : decode code 1142 = .ok (.istore 5, 2) := by decide +kernel
theorem d_L_law_1144 : decode code 1144 = .ok (.aload_n 2, 1) := by decide +kernel
theorem d_L_law_1145 : decode code 1145 = .ok (.aload_n 0, 1) := by decide +kernel
theorem d_L_law_1146 : decode code 1146 = .ok (.iload 4, 2) := by decide +kernel
theorem d_L_law_1148 : decode code 1148 = .ok (.iconst 1, 1) := by decide +kernel
theorem d_L_law_1149 : decode code 1149 = .ok (.iadd, 1) := by decide +kernel
theorem d_L_law_1150 : decode code 1150 = .ok (.iaload, 1) := by decide +kernel
theorem d_L_law_1151 : decode code 1151 = .ok (.invokevirtual 157, 3) := by decide +kernel
theorem d_L_law_1154 : decode code 1154 = .ok (.istore 6, 2) := by decide +kernel
theorem d_L_law_1156 : decode code 1156 = .ok (.aload_n 2, 1) := by decide +kernel
theorem d_L_law_1157 : decode code 1157 = .ok (.invokevirtual 94, 3) := by decide +kernel
theorem d_L_law_1160 : decode code 1160 = .ok (.iload 5, 2) := by decide +kernel
theorem d_L_law_1162 : decode code 1162 = .ok (.if_icmp .eq 5, 3) := by decide +kernel
theorem d_L_law_1165 : decode code 1165 = .ok (.iconst 0, 1) := by decide +kernel
theorem d_L_law_1166 : decode code 1166 = .ok (.ireturn, 1) := by decide +kernel
theorem d_L_law_1167 : decode code 1167 = .ok (.iload 5, 2) := by decide +kernel
theorem d_L_law_1169 : decode code 1169 = .ok (.ifCond .ne 15, 3) := by decide +kernel
theorem d_L_law_1172 : decode code 1172 = .ok (.aload_n 3, 1) := by decide +kernel
theorem d_L_law_1173 : decode code 1173 = .ok (.iconst 0, 1) := by decide +kernel
theorem d_L_law_1174 : decode code 1174 = .ok (.laload, 1) := by decide +kernel
theorem d_L_law_1175 : decode code 1175 = .ok (.iload 6, 2) := by decide +kernel
theorem d_L_law_1177 : decode code 1177 = .ok (.i2l, 1) := by decide +kernel
theorem d_L_law_1178 : decode code 1178 = .ok (.lcmp, 1) := by decide +kernel
theorem d_L_law_1179 : decode code 1179 = .ok (.ifCond .eq 5, 3) := by decide +kernel
theorem d_L_law_1182 : decode code 1182 = .ok (.iconst 0, 1) := by decide +kernel
theorem d_L_law_1183 : decode code 1183 = .ok (.ireturn, 1) := by decide +kernel
theorem d_L_law_1184 : decode code 1184 = .ok (.goto 255, 3) := by decide +kernel
theorem d_L_law_1187 : decode code 1187 = .ok (.aload_n 1, 1) := by decide +kernel
theorem d_L_law_1188 : decode code 1188 = .ok (.aload_n 0, 1) := by decide +kernel
theorem d_L_law_1189 : decode code 1189 = .ok (.iload 4, 2) := by decide +kernel
theorem d_L_law_1191 : decode code 1191 = .ok (.iconst 1, 1) := by decide +kernel
theorem d_L_law_1192 : decode code 1192 = .ok (.iadd, 1) := by decide +kernel
theorem d_L_law_1193 : decode code 1193 = .ok (.iaload, 1) := by decide +kernel
theorem d_L_law_1194 : decode code 1194 = .ok (.aload_n 3, 1) := by decide +kernel
theorem d_L_law_1195 : decode code 1195 = .ok (.invokestatic 158, 3) := by decide +kernel
theorem d_L_law_1198 : decode code 1198 = .ok (.istore 5, 2) := by decide +kernel
theorem d_L_law_1200 : decode code 1200 = .ok (.aload_n 2, 1) := by decide +kernel
theorem d_L_law_1201 : decode code 1201 = .ok (.aload_n 0, 1) := by decide +kernel
theorem d_L_law_1202 : decode code 1202 = .ok (.iload 4, 2) := by decide +kernel
theorem d_L_law_1204 : decode code 1204 = .ok (.iconst 1, 1) := by decide +kernel
theorem d_L_law_1205 : decode code 1205 = .ok (.iadd, 1) := by decide +kernel
theorem d_L_law_1206 : decode code 1206 = .ok (.iaload, 1) := by decide +kernel
theorem d_L_law_1207 : decode code 1207 = .ok (.invokevirtual 160, 3) := by decide +kernel
theorem d_L_law_1210 : decode code 1210 = .ok (.istore 6, 2) := by decide +kernel
theorem d_L_law_1212 : decode code 1212 = .ok (.aload_n 2, 1) := by decide +kernel
theorem d_L_law_1213 : decode code 1213 = .ok (.invokevirtual 94, 3) := by decide +kernel
theorem d_L_law_1216 : decode code 1216 = .ok (.iload 5, 2) := by decide +kernel
theorem d_L_law_1218 : decode code 1218 = .ok (.if_icmp .eq 5, 3) := by decide +kernel
theorem d_L_law_1221 : decode code 1221 = .ok (.iconst 0, 1) := by decide +kernel
theorem d_L_law_1222 : decode code 1222 = .ok (.ireturn, 1) := by decide +kernel
theorem d_L_law_1223 : decode code 1223 = .ok (.iload 5, 2) := by decide +kernel
theorem d_L_law_1225 : decode code 1225 = .ok (.ifCond .ne 15, 3) := by decide +kernel
theorem d_L_law_1228 : decode code 1228 = .ok (.aload_n 3, 1) := by decide +kernel
theorem d_L_law_1229 : decode code 1229 = .ok (.iconst 0, 1) := by decide +kernel
theorem d_L_law_1230 : decode code 1230 = .ok (.laload, 1) := by decide +kernel
theorem d_L_law_1231 : decode code 1231 = .ok (.iload 6, 2) := by decide +kernel
theorem d_L_law_1233 : decode code 1233 = .ok (.i2l, 1) := by decide +kernel
theorem d_L_law_1234 : decode code 1234 = .ok (.lcmp, 1) := by decide +kernel
theorem d_L_law_1235 : decode code 1235 = .ok (.ifCond .eq 5, 3) := by decide +kernel
theorem d_L_law_1238 : decode code 1238 = .ok (.iconst 0, 1) := by decide +kernel
theorem d_L_law_1239 : decode code 1239 = .ok (.ireturn, 1) := by decide +kernel
theorem d_L_law_1240 : decode code 1240 = .ok (.goto 199, 3) := by decide +kernel
theorem d_L_law_1243 : decode code 1243 = .ok (.aload_n 1, 1) := by decide +kernel
theorem d_L_law_1244 : decode code 1244 = .ok (.aload_n 0, 1) := by decide +kernel
theorem d_L_law_1245 : decode code 1245 = .ok (.iload 4, 2) := by decide +kernel
theorem d_L_law_1247 : decode code 1247 = .ok (.iconst 1, 1) := by decide +kernel
theorem d_L_law_1248 : decode code 1248 = .ok (.iadd, 1) := by decide +kernel
theorem d_L_law_1249 : decode code 1249 = .ok (.iaload, 1) := by decide +kernel
theorem d_L_law_1250 : decode code 1250 = .ok (.aload_n 3, 1) := by decide +kernel
theorem d_L_law_1251 : decode code 1251 = .ok (.invokestatic 161, 3) := by decide +kernel
theorem d_L_law_1254 : decode code 1254 = .ok (.istore 5, 2) := by decide +kernel
theorem d_L_law_1256 : decode code 1256 = .ok (.aload_n 2, 1) := by decide +kernel
theorem d_L_law_1257 : decode code 1257 = .ok (.aload_n 0, 1) := by decide +kernel
theorem d_L_law_1258 : decode code 1258 = .ok (.iload 4, 2) := by decide +kernel
theorem d_L_law_1260 : decode code 1260 = .ok (.iconst 1, 1) := by decide +kernel
theorem d_L_law_1261 : decode code 1261 = .ok (.iadd, 1) := by decide +kernel
theorem d_L_law_1262 : decode code 1262 = .ok (.iaload, 1) := by decide +kernel
theorem d_L_law_1263 : decode code 1263 = .ok (.invokevirtual 163, 3) := by decide +kernel
theorem d_L_law_1266 : decode code 1266 = .ok (.istore 6, 2) := by decide +kernel
theorem d_L_law_1268 : decode code 1268 = .ok (.aload_n 2, 1) := by decide +kernel
theorem d_L_law_1269 : decode code 1269 = .ok (.invokevirtual 94, 3) := by decide +kernel
theorem d_L_law_1272 : decode code 1272 = .ok (.iload 5, 2) := by decide +kernel
theorem d_L_law_1274 : decode code 1274 = .ok (.if_icmp .eq 5, 3) := by decide +kernel
theorem d_L_law_1277 : decode code 1277 = .ok (.iconst 0, 1) := by decide +kernel
theorem d_L_law_1278 : decode code 1278 = .ok (.ireturn, 1) := by decide +kernel
theorem d_L_law_1279 : decode code 1279 = .ok (.iload 5, 2) := by decide +kernel
theorem d_L_law_1281 : decode code 1281 = .ok (.ifCond .ne 15, 3) := by decide +kernel
theorem d_L_law_1284 : decode code 1284 = .ok (.aload_n 3, 1) := by decide +kernel
theorem d_L_law_1285 : decode code 1285 = .ok (.iconst 0, 1) := by decide +kernel
theorem d_L_law_1286 : decode code 1286 = .ok (.laload, 1) := by decide +kernel
theorem d_L_law_1287 : decode code 1287 = .ok (.iload 6, 2) := by decide +kernel
theorem d_L_law_1289 : decode code 1289 = .ok (.i2l, 1) := by decide +kernel
theorem d_L_law_1290 : decode code 1290 = .ok (.lcmp, 1) := by decide +kernel
theorem d_L_law_1291 : decode code 1291 = .ok (.ifCond .eq 5, 3) := by decide +kernel
theorem d_L_law_1294 : decode code 1294 = .ok (.iconst 0, 1) := by decide +kernel
theorem d_L_law_1295 : decode code 1295 = .ok (.ireturn, 1) := by decide +kernel
theorem d_L_law_1296 : decode code 1296 = .ok (.goto 143, 3) := by decide +kernel
theorem d_L_law_1299 : decode code 1299 = .ok (.aload_n 1, 1) := by decide +kernel
theorem d_L_law_1300 : decode code 1300 = .ok (.aload_n 0, 1) := by decide +kernel
theorem d_L_law_1301 : decode code 1301 = .ok (.iload 4, 2) := by decide +kernel
theorem d_L_law_1303 : decode code 1303 = .ok (.iconst 1, 1) := by decide +kernel
theorem d_L_law_1304 : decode code 1304 = .ok (.iadd, 1) := by decide +kernel
theorem d_L_law_1305 : decode code 1305 = .ok (.iaload, 1) := by decide +kernel
theorem d_L_law_1306 : decode code 1306 = .ok (.aload_n 0, 1) := by decide +kernel
theorem d_L_law_1307 : decode code 1307 = .ok (.iload 4, 2) := by decide +kernel
theorem d_L_law_1309 : decode code 1309 = .ok (.iconst 2, 1) := by decide +kernel
theorem d_L_law_1310 : decode code 1310 = .ok (.iadd, 1) := by decide +kernel
theorem d_L_law_1311 : decode code 1311 = .ok (.iaload, 1) := by decide +kernel
theorem d_L_law_1312 : decode code 1312 = .ok (.aload_n 3, 1) := by decide +kernel
theorem d_L_law_1313 : decode code 1313 = .ok (.invokestatic 164, 3) := by decide +kernel
theorem d_L_law_1316 : decode code 1316 = .ok (.istore 5, 2) := by decide +kernel
theorem d_L_law_1318 : decode code 1318 = .ok (.aload_n 2, 1) := by decide +kernel
theorem d_L_law_1319 : decode code 1319 = .ok (.aload_n 0, 1) := by decide +kernel
theorem d_L_law_1320 : decode code 1320 = .ok (.iload 4, 2) := by decide +kernel
theorem d_L_law_1322 : decode code 1322 = .ok (.iconst 1, 1) := by decide +kernel
theorem d_L_law_1323 : decode code 1323 = .ok (.iadd, 1) := by decide +kernel
theorem d_L_law_1324 : decode code 1324 = .ok (.iaload, 1) := by decide +kernel
theorem d_L_law_1325 : decode code 1325 = .ok (.aload_n 0, 1) := by decide +kernel
theorem d_L_law_1326 : decode code 1326 = .ok (.iload 4, 2) := by decide +kernel
theorem d_L_law_1328 : decode code 1328 = .ok (.iconst 2, 1) := by decide +kernel
theorem d_L_law_1329 : decode code 1329 = .ok (.iadd, 1) := by decide +kernel
theorem d_L_law_1330 : decode code 1330 = .ok (.iaload, 1) := by decide +kernel
theorem d_L_law_1331 : decode code 1331 = .ok (.invokevirtual 166, 3) := by decide +kernel
theorem d_L_law_1334 : decode code 1334 = .ok (.istore 6, 2) := by decide +kernel
theorem d_L_law_1336 : decode code 1336 = .ok (.aload_n 2, 1) := by decide +kernel
theorem d_L_law_1337 : decode code 1337 = .ok (.invokevirtual 94, 3) := by decide +kernel
theorem d_L_law_1340 : decode code 1340 = .ok (.iload 5, 2) := by decide +kernel
theorem d_L_law_1342 : decode code 1342 = .ok (.if_icmp .eq 5, 3) := by decide +kernel
theorem d_L_law_1345 : decode code 1345 = .ok (.iconst 0, 1) := by decide +kernel
theorem d_L_law_1346 : decode code 1346 = .ok (.ireturn, 1) := by decide +kernel
theorem d_L_law_1347 : decode code 1347 = .ok (.iload 5, 2) := by decide +kernel
theorem d_L_law_1349 : decode code 1349 = .ok (.ifCond .ne 15, 3) := by decide +kernel
theorem d_L_law_1352 : decode code 1352 = .ok (.aload_n 3, 1) := by decide +kernel
theorem d_L_law_1353 : decode code 1353 = .ok (.iconst 0, 1) := by decide +kernel
theorem d_L_law_1354 : decode code 1354 = .ok (.laload, 1) := by decide +kernel
theorem d_L_law_1355 : decode code 1355 = .ok (.iload 6, 2) := by decide +kernel
theorem d_L_law_1357 : decode code 1357 = .ok (.i2l, 1) := by decide +kernel
theorem d_L_law_1358 : decode code 1358 = .ok (.lcmp, 1) := by decide +kernel
theorem d_L_law_1359 : decode code 1359 = .ok (.ifCond .eq 5, 3) := by decide +kernel
theorem d_L_law_1362 : decode code 1362 = .ok (.iconst 0, 1) := by decide +kernel
theorem d_L_law_1363 : decode code 1363 = .ok (.ireturn, 1) := by decide +kernel
theorem d_L_law_1364 : decode code 1364 = .ok (.goto 75, 3) := by decide +kernel
theorem d_L_law_1367 : decode code 1367 = .ok (.aload_n 1, 1) := by decide +kernel
theorem d_L_law_1368 : decode code 1368 = .ok (.aload_n 0, 1) := by decide +kernel
theorem d_L_law_1369 : decode code 1369 = .ok (.iload 4, 2) := by decide +kernel
theorem d_L_law_1371 : decode code 1371 = .ok (.iconst 1, 1) := by decide +kernel
theorem d_L_law_1372 : decode code 1372 = .ok (.iadd, 1) := by decide +kernel
theorem d_L_law_1373 : decode code 1373 = .ok (.iaload, 1) := by decide +kernel
theorem d_L_law_1374 : decode code 1374 = .ok (.invokestatic 167, 3) := by decide +kernel
theorem d_L_law_1377 : decode code 1377 = .ok (.istore 5, 2) := by decide +kernel
theorem d_L_law_1379 : decode code 1379 = .ok (.aload_n 2, 1) := by decide +kernel
theorem d_L_law_1380 : decode code 1380 = .ok (.aload_n 0, 1) := by decide +kernel
theorem d_L_law_1381 : decode code 1381 = .ok (.iload 4, 2) := by decide +kernel
theorem d_L_law_1383 : decode code 1383 = .ok (.iconst 1, 1) := by decide +kernel
theorem d_L_law_1384 : decode code 1384 = .ok (.iadd, 1) := by decide +kernel
theorem d_L_law_1385 : decode code 1385 = .ok (.iaload, 1) := by decide +kernel
theorem d_L_law_1386 : decode code 1386 = .ok (.invokevirtual 169, 3) := by decide +kernel
theorem d_L_law_1389 : decode code 1389 = .ok (.aload_n 2, 1) := by decide +kernel
theorem d_L_law_1390 : decode code 1390 = .ok (.invokevirtual 94, 3) := by decide +kernel
theorem d_L_law_1393 : decode code 1393 = .ok (.iload 5, 2) := by decide +kernel
theorem d_L_law_1395 : decode code 1395 = .ok (.if_icmp .eq 5, 3) := by decide +kernel
theorem d_L_law_1398 : decode code 1398 = .ok (.iconst 0, 1) := by decide +kernel
theorem d_L_law_1399 : decode code 1399 = .ok (.ireturn, 1) := by decide +kernel
theorem d_L_law_1400 : decode code 1400 = .ok (.goto 39, 3) := by decide +kernel
theorem d_L_law_1403 : decode code 1403 = .ok (.aload_n 1, 1) := by decide +kernel
theorem d_L_law_1404 : decode code 1404 = .ok (.aload_n 0, 1) := by decide +kernel
theorem d_L_law_1405 : decode code 1405 = .ok (.iload 4, 2) := by decide +kernel
theorem d_L_law_1407 : decode code 1407 = .ok (.iconst 1, 1) := by decide +kernel
theorem d_L_law_1408 : decode code 1408 = .ok (.iadd, 1) := by decide +kernel
theorem d_L_law_1409 : decode code 1409 = .ok (.iaload, 1) := by decide +kernel
theorem d_L_law_1410 : decode code 1410 = .ok (.invokestatic 170, 3) := by decide +kernel
theorem d_L_law_1413 : decode code 1413 = .ok (.istore 5, 2) := by decide +kernel
theorem d_L_law_1415 : decode code 1415 = .ok (.aload_n 2, 1) := by decide +kernel
theorem d_L_law_1416 : decode code 1416 = .ok (.aload_n 0, 1) := by decide +kernel
theorem d_L_law_1417 : decode code 1417 = .ok (.iload 4, 2) := by decide +kernel
theorem d_L_law_1419 : decode code 1419 = .ok (.iconst 1, 1) := by decide +kernel
theorem d_L_law_1420 : decode code 1420 = .ok (.iadd, 1) := by decide +kernel
theorem d_L_law_1421 : decode code 1421 = .ok (.iaload, 1) := by decide +kernel
theorem d_L_law_1422 : decode code 1422 = .ok (.invokevirtual 172, 3) := by decide +kernel
theorem d_L_law_1425 : decode code 1425 = .ok (.aload_n 2, 1) := by decide +kernel
theorem d_L_law_1426 : decode code 1426 = .ok (.invokevirtual 94, 3) := by decide +kernel
theorem d_L_law_1429 : decode code 1429 = .ok (.iload 5, 2) := by decide +kernel
theorem d_L_law_1431 : decode code 1431 = .ok (.if_icmp .eq 5, 3) := by decide +kernel
theorem d_L_law_1434 : decode code 1434 = .ok (.iconst 0, 1) := by decide +kernel
theorem d_L_law_1435 : decode code 1435 = .ok (.ireturn, 1) := by decide +kernel
theorem d_L_law_1436 : decode code 1436 = .ok (.goto 3, 3) := by decide +kernel
theorem d_L_law_1439 : decode code 1439 = .ok (.iinc 4 7, 3) := by decide +kernel
theorem d_L_law_1442 : decode code 1442 = .ok (.goto (-1419), 3) := by decide +kernel
theorem d_L_law_1445 : decode code 1445 = .ok (.iconst 1, 1) := by decide +kernel
theorem d_L_law_1446 : decode code 1446 = .ok (.ireturn, 1) := by decide +kernel
