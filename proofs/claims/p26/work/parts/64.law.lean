abbrev bas (a : AD) (b9 n9 most fr t : Nat) (v wv : Int32) : List (Nat × Value) := [(0, .ref b9), (1, .ref (a.wa 0)), (2, .int v), (3, .int (nI n9)), (4, .int (nI most)), (5, .int 1), (6, .int (nI fr)), (7, .int (nI t)), (8, .int wv)]
abbrev bas0 (a : AD) (b9 n9 most fr t : Nat) (v : Int32) : List (Nat × Value) := [(0, .ref b9), (1, .ref (a.wa 0)), (2, .int v), (3, .int (nI n9)), (4, .int (nI most)), (5, .int 1), (6, .int (nI fr)), (7, .int (nI t))]
def KK (p : Program) (l : Launch) (e : Env) (R : Room) (s : State) (m : MethodId) (b9 : Nat) (below : List Frame) (meth : Method) (c : Code) (Q : State → Prop) (D : va_G) (ct : Nat → ClassId) (A : Nat → Prop) (a : AD) (n9 most t : Nat) (v wv : Int32) (k cells slots : Nat) : Prop := ∀ (w1 : NW) (x1 : SC) (sl1 : Nat → Option (SD × NW)) (H1 : Heap) (locs1 : List Loc) (ls1 : Array Slot) (cells1 slots1 : Nat), PI (k + 2) w1 → (w1.T.n = n9 ∧ ¬ w1.nd = 0) → InvK x1 sl1 → cells1 ≤ cells + 39 → slots1 ≤ slots + 3726 → lv_has ls1 13 (bas a b9 n9 most w1.cnt t v wv) → ST D ct A s a w1 x1 sl1 H1 locs1 → W p l e R s m #[Value.ref b9] below meth c H1 locs1 cells1 slots1 Q (F0 m 650 ls1 [])
theorem PI.ns300 {k : Nat} {w : NW} (h : PI k w) : w.T.ns ≤ 300 := by
  obtain ⟨S, hR, -, -⟩ := h
  exact hR.1.2.2.2
theorem PI.n32 {k : Nat} {w : NW} (h : PI k w) : 2 ≤ w.T.n ∧ w.T.n ≤ 32 := by
  obtain ⟨S, hR, -, -⟩ := h
  exact hR.n32
theorem PI.c8 {k : Nat} {w : NW} (h : PI k w) : w.cnt ≤ 8 := by
  obtain ⟨S, hR, -, -⟩ := h
  exact hR.2.2.1.2.1
theorem PI.cS {k : Nat} {w : NW} (h : PI k w) : w.cS ≤ k := by
  obtain ⟨S, hR, -, -⟩ := h
  exact hR.2.1.2.2
theorem PI.fuel {k : Nat} {w : NW} (h : PI k w) {c : Nat} (hc : c < w.T.n) : ¬ w_gr (w.T.F c) < 0 ∧ ¬ w_gr (w.T.M c) < w_gr (w.T.F c) ∧ ¬ w_gr (w_pr w.T.g w.T.M w.T.P w.T.E c) < 0 := by
  obtain ⟨S, hR, -, -⟩ := h
  exact hR.q_fuel hc
theorem PI.node {k : Nat} {w : NW} (h : PI k w) (hn : ¬ w.nd = 0) : ¬ w_gr (w.gt 0) < w_gr (w.hd 0) := by
  obtain ⟨S, hR, -, h9⟩ := h
  exact hR.q_node hn h9
set_option maxHeartbeats 2000000 in
set_option maxRecDepth 100000 in
theorem g_cell {p : Program} {e : Env} {R : Room} {s : State} {m : MethodId} {below : List Frame} {meth : Method} {c : Code} {H : Heap} {locs : List Loc} {cells slots : Nat} {Q : State → Prop} {ls : Array Slot} {A : Nat → Prop} {a0 : Cond} (l : Launch) (D : va_G) (ct : Nat → ClassId) (st : Nat → Nat) {b9 L9 : Nat} {xs : Nat → Int32} (C0 : LX p l R s m c b9 L9 xs D ct st A a0) (a : AD) {w : NW} {x : SC} {sl : Nat → Option (SD × NW)} {k : Nat} (n9 most t : Nat) (v wv : Int32)  (hI : PI k w) (hk : k + 2 < 512) (hn : w.T.n = n9) (hnd : ¬ w.nd = 0) (hIK : InvK x sl) (hro : cells + 39 ≤ R.cells ∧ slots + 3726 ≤ R.slots) (hT : ST D ct A s a w x sl H locs) (hl : lv_has ls 13 [(0, .ref b9), (1, .ref (a.wa 0)), (2, .int v), (3, .int (nI n9)), (4, .int (nI most)), (5, .int 1), (6, .int (nI w.cnt)), (7, .int (nI t)), (8, .int wv)])
    (kk : KK p l e R s m b9 below meth c Q D ct A a n9 most t v wv k cells slots)
    : W p l e R s m #[Value.ref b9] below meth c H locs cells slots Q (F0 m 210 ls []) := by
  have C1 := C0
  obtain ⟨hx, hb, hml, hown, hts, hE, hV, hA, hXs, hbl, hbA, hRf, hRl, hL9⟩ := C1
  have h32 := hI.n32
  have h300 := hI.ns300
  have h8 := hI.c8
  refine lv_sipush (v := 200) hx hb d_L_law_210 (by decide) ?_
  refine lv_iload hx hb d_L_law_213 (lv_at hl 8 rfl) ?_
  refine lv_iconst (v := 4) hx hb d_L_law_215 (by decide) ?_
  refine lv_ishr hx hb d_L_law_216 ?_
  refine lv_sipush (v := 4000) hx hb d_L_law_217 (by decide) ?_
  refine v_L_low l D ct st C0 4000 (by decide) ⟨by omega, by omega⟩ hT.2.2 ⟨by omega, by omega⟩ hl.1 (Nat.le_of_ble_eq_true rfl) d_L_law_220 (fun r_220 hr_220 => ?_)
  refine q_iadd (v := nI (200 + r_220)) hx hb d_L_law_223 (nI_add 200 r_220) ?_
  refine lv_istore (lv' := [(10, .int (nI (200 + r_220))), (0, .ref b9), (1, .ref (a.wa 0)), (2, .int v), (3, .int (nI n9)), (4, .int (nI most)), (5, .int 1), (6, .int (nI w.cnt)), (7, .int (nI t)), (8, .int wv)]) hx hb d_L_law_224 hl (by decide) rfl (fun ls hl => ?_)
  refine lv_iload hx hb d_L_law_226 (lv_at hl 9 rfl) ?_
  refine lv_bipush (v := 8) hx hb d_L_law_228 (by decide) ?_
  refine lv_ishr hx hb d_L_law_230 ?_
  refine lv_sipush (v := 2001) hx hb d_L_law_231 (by decide) ?_
  refine v_L_low l D ct st C0 2001 (by decide) ⟨by omega, by omega⟩ hT.2.2 ⟨by omega, by omega⟩ hl.1 (Nat.le_of_ble_eq_true rfl) d_L_law_234 (fun r_234 hr_234 => ?_)
  refine lv_sipush (v := 1000) hx hb d_L_law_237 (by decide) ?_
  refine lv_isub hx hb d_L_law_240 ?_
  refine lv_istore (lv' := [(11, .int ((nI r_234) - 1000)), (10, .int (nI (200 + r_220))), (0, .ref b9), (1, .ref (a.wa 0)), (2, .int v), (3, .int (nI n9)), (4, .int (nI most)), (5, .int 1), (6, .int (nI w.cnt)), (7, .int (nI t)), (8, .int wv)]) hx hb d_L_law_241 hl (by decide) rfl (fun ls hl => ?_)
  refine lv_aload_n hx hb d_L_law_243 rfl (lv_at hl 3 rfl) ?_
  refine lv_iload hx hb d_L_law_244 (lv_at hl 10 rfl) ?_
  refine lv_bipush (v := 6) hx hb d_L_law_246 (by decide) ?_
  refine lv_ishr hx hb d_L_law_248 ?_
  refine lv_iload_n hx hb d_L_law_249 rfl (lv_at hl 5 rfl) ?_
  refine v_L_low l D ct st C0 n9 (rfl) ⟨by omega, by omega⟩ hT.2.2 ⟨by omega, by omega⟩ hl.1 (Nat.le_of_ble_eq_true rfl) d_L_law_250 (fun r_250 hr_250 => ?_)
  refine lv_iload hx hb d_L_law_253 (lv_at hl 1 rfl) ?_
  refine lv_iload hx hb d_L_law_255 (lv_at hl 0 rfl) ?_
  refine lv_sipush (v := 6000) hx hb d_L_law_257 (by decide) ?_
  refine lv_iload hx hb d_L_law_260 (lv_at hl 10 rfl) ?_
  refine lv_bipush (v := 9) hx hb d_L_law_262 (by decide) ?_
  refine lv_ishr hx hb d_L_law_264 ?_
  refine lv_sipush (v := 20000) hx hb d_L_law_265 (by decide) ?_
  refine v_L_low l D ct st C0 20000 (by decide) ⟨by omega, by omega⟩ hT.2.2 ⟨by omega, by omega⟩ hl.1 (Nat.le_of_ble_eq_true rfl) d_L_law_268 (fun r_268 hr_268 => ?_)
  refine q_iadd (v := nI (6000 + r_268)) hx hb d_L_law_271 (nI_add 6000 r_268) ?_
  refine lv_iload hx hb d_L_law_272 (lv_at hl 10 rfl) ?_
  refine lv_bipush (v := 11) hx hb d_L_law_274 (by decide) ?_
  refine lv_ishr hx hb d_L_law_276 ?_
  refine lv_iload hx hb d_L_law_277 (lv_at hl 1 rfl) ?_
  refine lv_iconst (v := 1) hx hb d_L_law_279 (by decide) ?_
  refine q_iadd (v := nI ((200 + r_220) + 1)) hx hb d_L_law_280 (nI_add (200 + r_220) 1) ?_
  refine v_L_low l D ct st C0 ((200 + r_220) + 1) (rfl) ⟨by omega, by omega⟩ hT.2.2 ⟨by omega, by omega⟩ hl.1 (Nat.le_of_ble_eq_true rfl) d_L_law_281 (fun r_281 hr_281 => ?_)
  refine u_cell l D ct st C0 a hI (by omega) r_250 (200 + r_220) (6000 + r_268) r_281 _ (by omega) ⟨by omega, by omega⟩ (by have := mom_in (r := r_234) (K := 1000) (a := 1000) (by decide) (by omega) (by omega); omega) ⟨by omega, by omega⟩ (by omega) ⟨by omega, by omega⟩ hT hl.1 (Nat.le_of_ble_eq_true rfl) d_L_law_284 (fun w1 H locs hI1 hs1 hT => ?_)
  refine lv_goto (tgt := 650) hx hb d_L_law_287 (by decide) ?_
  exact kk w1 x sl H locs ls _ _ hI1.mono ⟨hs1.1.trans hn, by rw [hs1.2.1]; exact hnd⟩ hIK (by omega) (by omega) (by rw [hs1.2.2]; exact lv_sub hl [2, 3, 4, 5, 6, 7, 8, 9, 10] rfl) hT
set_option maxHeartbeats 2000000 in
set_option maxRecDepth 100000 in
theorem g_step {p : Program} {e : Env} {R : Room} {s : State} {m : MethodId} {below : List Frame} {meth : Method} {c : Code} {H : Heap} {locs : List Loc} {cells slots : Nat} {Q : State → Prop} {ls : Array Slot} {A : Nat → Prop} {a0 : Cond} (l : Launch) (D : va_G) (ct : Nat → ClassId) (st : Nat → Nat) {b9 L9 : Nat} {xs : Nat → Int32} (C0 : LX p l R s m c b9 L9 xs D ct st A a0) (a : AD) {w : NW} {x : SC} {sl : Nat → Option (SD × NW)} {k : Nat} (n9 most t : Nat) (v wv : Int32)  (hI : PI k w) (hk : k + 2 < 512) (hn : w.T.n = n9) (hnd : ¬ w.nd = 0) (hIK : InvK x sl) (hro : cells + 39 ≤ R.cells ∧ slots + 3726 ≤ R.slots) (hT : ST D ct A s a w x sl H locs) (hl : lv_has ls 13 [(0, .ref b9), (1, .ref (a.wa 0)), (2, .int v), (3, .int (nI n9)), (4, .int (nI most)), (5, .int 1), (6, .int (nI w.cnt)), (7, .int (nI t)), (8, .int wv)])
    (kk : KK p l e R s m b9 below meth c Q D ct A a n9 most t v wv k cells slots)
    : W p l e R s m #[Value.ref b9] below meth c H locs cells slots Q (F0 m 297 ls []) := by
  have C1 := C0
  obtain ⟨hx, hb, hml, hown, hts, hE, hV, hA, hXs, hbl, hbA, hRf, hRl, hL9⟩ := C1
  have h32 := hI.n32
  have h300 := hI.ns300
  have h8 := hI.c8
  refine lv_iconst (v := 1) hx hb d_L_law_297 (by decide) ?_
  refine lv_iload hx hb d_L_law_298 (lv_at hl 8 rfl) ?_
  refine lv_iconst (v := 4) hx hb d_L_law_300 (by decide) ?_
  refine lv_ishr hx hb d_L_law_301 ?_
  refine lv_bipush (v := 6) hx hb d_L_law_302 (by decide) ?_
  refine v_L_low l D ct st C0 6 (by decide) ⟨by omega, by omega⟩ hT.2.2 ⟨by omega, by omega⟩ hl.1 (Nat.le_of_ble_eq_true rfl) d_L_law_304 (fun r_304 hr_304 => ?_)
  refine q_iadd (v := nI (1 + r_304)) hx hb d_L_law_307 (nI_add 1 r_304) ?_
  refine lv_istore (lv' := [(10, .int (nI (1 + r_304))), (0, .ref b9), (1, .ref (a.wa 0)), (2, .int v), (3, .int (nI n9)), (4, .int (nI most)), (5, .int 1), (6, .int (nI w.cnt)), (7, .int (nI t)), (8, .int wv)]) hx hb d_L_law_308 hl (by decide) rfl (fun ls hl => ?_)
  refine lv_aload_n hx hb d_L_law_310 rfl (lv_at hl 2 rfl) ?_
  refine u_steps l D ct st C0 a hI (by omega)  ⟨by omega, by omega⟩ hT hl.1 (Nat.le_of_ble_eq_true rfl) d_L_law_311 (?_)
  refine lv_iload hx hb d_L_law_314 (lv_at hl 0 rfl) ?_
  refine q_iadd (v := nI (w.T.ns + (1 + r_304))) hx hb d_L_law_316 (nI_add w.T.ns (1 + r_304)) ?_
  refine lv_sipush (v := 300) hx hb d_L_law_317 (by decide) ?_
  refine q_icmp_gt_n (a := w.T.ns + (1 + r_304)) (b := 300) (tgt := 365) hx hb d_L_law_320 (by decide) rfl rfl (by omega) (by omega) (fun h_320 => ?_) (fun h_320 => ?_)
  · refine lv_goto (tgt := 650) hx hb d_L_law_365 (by decide) ?_
    exact kk w x sl H locs ls _ _ hI.mono.mono ⟨hn, hnd⟩ hIK (by omega) (by omega) (lv_sub hl [1, 2, 3, 4, 5, 6, 7, 8, 9] rfl) hT
  · refine lv_aload_n hx hb d_L_law_323 rfl (lv_at hl 2 rfl) ?_
    refine u_steps l D ct st C0 a hI (by omega)  ⟨by omega, by omega⟩ hT hl.1 (Nat.le_of_ble_eq_true rfl) d_L_law_324 (?_)
    refine lv_istore (lv' := [(11, .int (nI w.T.ns)), (10, .int (nI (1 + r_304))), (0, .ref b9), (1, .ref (a.wa 0)), (2, .int v), (3, .int (nI n9)), (4, .int (nI most)), (5, .int 1), (6, .int (nI w.cnt)), (7, .int (nI t)), (8, .int wv)]) hx hb d_L_law_327 hl (by decide) rfl (fun ls hl => ?_)
    refine lv_aload_n hx hb d_L_law_329 rfl (lv_at hl 3 rfl) ?_
    refine lv_iconst (v := 1) hx hb d_L_law_330 (by decide) ?_
    refine lv_iload hx hb d_L_law_331 (lv_at hl 10 rfl) ?_
    refine lv_bipush (v := 7) hx hb d_L_law_333 (by decide) ?_
    refine lv_ishr hx hb d_L_law_335 ?_
    refine lv_sipush (v := 200) hx hb d_L_law_336 (by decide) ?_
    refine v_L_low l D ct st C0 200 (by decide) ⟨by omega, by omega⟩ hT.2.2 ⟨by omega, by omega⟩ hl.1 (Nat.le_of_ble_eq_true rfl) d_L_law_339 (fun r_339 hr_339 => ?_)
    refine q_iadd (v := nI (1 + r_339)) hx hb d_L_law_342 (nI_add 1 r_339) ?_
    refine lv_iload hx hb d_L_law_343 (lv_at hl 1 rfl) ?_
    refine u_step l D ct st C0 a hI (by omega) (1 + r_339) (1 + r_304) ⟨by omega, by omega⟩ ⟨by omega, by omega⟩ (by omega) ⟨by omega, by omega⟩ hT hl.1 (Nat.le_of_ble_eq_true rfl) d_L_law_345 (fun w1 x1 k9 H locs hI1 hs1 ⟨ha9, hb9, hkf⟩ hT => ?_)
    refine lv_aload_n hx hb d_L_law_348 rfl (lv_at hl 3 rfl) ?_
    refine u_steps l D ct st C0 a hI1 (by omega)  ⟨by omega, by omega⟩ hT hl.1 (Nat.le_of_ble_eq_true rfl) d_L_law_349 (?_)
    refine lv_iload hx hb d_L_law_352 (lv_at hl 0 rfl) ?_
    refine q_isub (v := nI (w1.T.ns - w.T.ns)) hx hb d_L_law_354 (pk_sub (a := w1.T.ns) (b := w.T.ns) (by omega)) ?_
    refine q_icmp_ne_n (a := k9) (b := w1.T.ns - w.T.ns) (tgt := 362) hx hb d_L_law_355 (by decide) rfl rfl (by omega) (by omega) (fun h_355 => absurd (show k9 = w1.T.ns - w.T.ns by omega) h_355) (fun h_355 => ?_)
    refine lv_iconst (v := 1) hx hb d_L_law_358 (by decide) ?_
    refine lv_goto (tgt := 363) hx hb d_L_law_359 (by decide) ?_
    refine lv_istore (lv' := [(5, .int 1), (11, .int (nI w.T.ns)), (10, .int (nI (1 + r_304))), (0, .ref b9), (1, .ref (a.wa 0)), (2, .int v), (3, .int (nI n9)), (4, .int (nI most)), (6, .int (nI w.cnt)), (7, .int (nI t)), (8, .int wv)]) hx hb d_L_law_363 hl (by decide) rfl (fun ls hl => ?_)
    refine lv_goto (tgt := 650) hx hb d_L_law_365 (by decide) ?_
    exact kk w1 x1 sl H locs ls _ _ hI1.mono ⟨hs1.1.trans hn, by rw [hs1.2.1]; exact hnd⟩ (hIK.same hkf) (by omega) (by omega) (by rw [hs1.2.2]; exact lv_sub hl [3, 4, 5, 6, 7, 0, 8, 9, 10] rfl) hT
set_option maxHeartbeats 2000000 in
set_option maxRecDepth 100000 in
theorem g_front {p : Program} {e : Env} {R : Room} {s : State} {m : MethodId} {below : List Frame} {meth : Method} {c : Code} {H : Heap} {locs : List Loc} {cells slots : Nat} {Q : State → Prop} {ls : Array Slot} {A : Nat → Prop} {a0 : Cond} (l : Launch) (D : va_G) (ct : Nat → ClassId) (st : Nat → Nat) {b9 L9 : Nat} {xs : Nat → Int32} (C0 : LX p l R s m c b9 L9 xs D ct st A a0) (a : AD) {w : NW} {x : SC} {sl : Nat → Option (SD × NW)} {k : Nat} (n9 most t : Nat) (v wv : Int32)  (hI : PI k w) (hk : k + 2 < 512) (hn : w.T.n = n9) (hnd : ¬ w.nd = 0) (hIK : InvK x sl) (hc : w.cnt < 8) (hro : cells + 39 ≤ R.cells ∧ slots + 3726 ≤ R.slots) (hT : ST D ct A s a w x sl H locs) (hl : lv_has ls 13 [(0, .ref b9), (1, .ref (a.wa 0)), (2, .int v), (3, .int (nI n9)), (4, .int (nI most)), (5, .int 1), (6, .int (nI w.cnt)), (7, .int (nI t)), (8, .int wv)])
    (kk : KK p l e R s m b9 below meth c Q D ct A a n9 most t v wv k cells slots)
    : W p l e R s m #[Value.ref b9] below meth c H locs cells slots Q (F0 m 382 ls []) := by
  have C1 := C0
  obtain ⟨hx, hb, hml, hown, hts, hE, hV, hA, hXs, hbl, hbA, hRf, hRl, hL9⟩ := C1
  have h32 := hI.n32
  have h300 := hI.ns300
  have h8 := hI.c8
  refine lv_aload_n hx hb d_L_law_382 rfl (lv_at hl 1 rfl) ?_
  refine lv_iload hx hb d_L_law_383 (lv_at hl 8 rfl) ?_
  refine lv_iconst (v := 4) hx hb d_L_law_385 (by decide) ?_
  refine lv_ishr hx hb d_L_law_386 ?_
  refine lv_iconst (v := 3) hx hb d_L_law_387 (by decide) ?_
  refine v_L_low l D ct st C0 3 (by decide) ⟨by omega, by omega⟩ hT.2.2 ⟨by omega, by omega⟩ hl.1 (Nat.le_of_ble_eq_true rfl) d_L_law_388 (fun r_388 hr_388 => ?_)
  refine lv_iload hx hb d_L_law_391 (lv_at hl 8 rfl) ?_
  refine lv_bipush (v := 6) hx hb d_L_law_393 (by decide) ?_
  refine lv_ishr hx hb d_L_law_395 ?_
  refine lv_ldc (v := 100001) hx hb hown (hts _ (List.mem_cons_of_mem _ x_836)) d_L_law_396 ?_
  refine v_L_low l D ct st C0 100001 (by decide) ⟨by omega, by omega⟩ hT.2.2 ⟨by omega, by omega⟩ hl.1 (Nat.le_of_ble_eq_true rfl) d_L_law_398 (fun r_398 hr_398 => ?_)
  refine lv_iload hx hb d_L_law_401 (lv_at hl 8 rfl) ?_
  refine lv_bipush (v := 9) hx hb d_L_law_403 (by decide) ?_
  refine lv_ishr hx hb d_L_law_405 ?_
  refine lv_sipush (v := 1801) hx hb d_L_law_406 (by decide) ?_
  refine v_L_low l D ct st C0 1801 (by decide) ⟨by omega, by omega⟩ hT.2.2 ⟨by omega, by omega⟩ hl.1 (Nat.le_of_ble_eq_true rfl) d_L_law_409 (fun r_409 hr_409 => ?_)
  refine lv_sipush (v := 900) hx hb d_L_law_412 (by decide) ?_
  refine lv_isub hx hb d_L_law_415 ?_
  refine lv_iconst (v := 1) hx hb d_L_law_416 (by decide) ?_
  refine lv_iload hx hb d_L_law_417 (lv_at hl 8 rfl) ?_
  refine lv_iconst (v := 5) hx hb d_L_law_419 (by decide) ?_
  refine lv_ishr hx hb d_L_law_420 ?_
  refine lv_sipush (v := 900) hx hb d_L_law_421 (by decide) ?_
  refine v_L_low l D ct st C0 900 (by decide) ⟨by omega, by omega⟩ hT.2.2 ⟨by omega, by omega⟩ hl.1 (Nat.le_of_ble_eq_true rfl) d_L_law_424 (fun r_424 hr_424 => ?_)
  refine q_iadd (v := nI (1 + r_424)) hx hb d_L_law_427 (nI_add 1 r_424) ?_
  refine u_front l D ct st C0 a hI (by omega) r_388 r_398 (1 + r_424) _ hc (by omega) (by omega) (mom_w (r := r_409) (K := 900) (a := 900) (by decide) (by omega) (by omega) (by decide) (by decide)) ⟨by omega, by omega⟩ ⟨by omega, by omega⟩ hT hl.1 (Nat.le_of_ble_eq_true rfl) d_L_law_428 (fun w1 r9 H locs hr9 hI1 hs1 hT => ?_)
  refine lv_iload hx hb d_L_law_431 (lv_at hl 6 rfl) ?_
  refine q_icmp_gt_n (a := r9) (b := w.cnt) (tgt := 440) hx hb d_L_law_433 (by decide) rfl rfl (by omega) (by omega) (fun h_433 => absurd h_433 (by omega)) (fun h_433 => ?_)
  refine lv_iconst (v := 1) hx hb d_L_law_436 (by decide) ?_
  refine lv_goto (tgt := 441) hx hb d_L_law_437 (by decide) ?_
  refine lv_istore (lv' := [(5, .int 1), (0, .ref b9), (1, .ref (a.wa 0)), (2, .int v), (3, .int (nI n9)), (4, .int (nI most)), (6, .int (nI w.cnt)), (7, .int (nI t)), (8, .int wv)]) hx hb d_L_law_441 hl (by decide) rfl (fun ls hl => ?_)
  refine lv_aload_n hx hb d_L_law_443 rfl (lv_at hl 2 rfl) ?_
  refine u_fronts l D ct st C0 a hI1 (by omega)  ⟨by omega, by omega⟩ hT hl.1 (Nat.le_of_ble_eq_true rfl) d_L_law_444 (?_)
  refine lv_istore (lv' := [(6, .int (nI w1.cnt)), (5, .int 1), (0, .ref b9), (1, .ref (a.wa 0)), (2, .int v), (3, .int (nI n9)), (4, .int (nI most)), (7, .int (nI t)), (8, .int wv)]) hx hb d_L_law_447 hl (by decide) rfl (fun ls hl => ?_)
  refine lv_goto (tgt := 650) hx hb d_L_law_449 (by decide) ?_
  exact kk w1 x sl H locs ls _ _ hI1.mono ⟨hs1.1.trans hn, by rw [hs1.2.1]; exact hnd⟩ hIK (by omega) (by omega) (lv_sub hl [2, 3, 4, 5, 6, 1, 0, 7, 8] rfl) hT
set_option maxHeartbeats 2000000 in
set_option maxRecDepth 100000 in
theorem g_tick {p : Program} {e : Env} {R : Room} {s : State} {m : MethodId} {below : List Frame} {meth : Method} {c : Code} {H : Heap} {locs : List Loc} {cells slots : Nat} {Q : State → Prop} {ls : Array Slot} {A : Nat → Prop} {a0 : Cond} (l : Launch) (D : va_G) (ct : Nat → ClassId) (st : Nat → Nat) {b9 L9 : Nat} {xs : Nat → Int32} (C0 : LX p l R s m c b9 L9 xs D ct st A a0) (a : AD) {w : NW} {x : SC} {sl : Nat → Option (SD × NW)} {k : Nat} (n9 most t : Nat) (v wv : Int32)  (hI : PI k w) (hk : k + 2 < 512) (hn : w.T.n = n9) (hnd : ¬ w.nd = 0) (hIK : InvK x sl) (hro : cells + 39 ≤ R.cells ∧ slots + 3726 ≤ R.slots) (hT : ST D ct A s a w x sl H locs) (hl : lv_has ls 13 [(0, .ref b9), (1, .ref (a.wa 0)), (2, .int v), (3, .int (nI n9)), (4, .int (nI most)), (5, .int 1), (6, .int (nI w.cnt)), (7, .int (nI t)), (8, .int wv)])
    (kk : KK p l e R s m b9 below meth c Q D ct A a n9 most t v wv k cells slots)
    : W p l e R s m #[Value.ref b9] below meth c H locs cells slots Q (F0 m 459 ls []) := by
  have C1 := C0
  obtain ⟨hx, hb, hml, hown, hts, hE, hV, hA, hXs, hbl, hbA, hRf, hRl, hL9⟩ := C1
  have h32 := hI.n32
  have h300 := hI.ns300
  have h8 := hI.c8
  refine lv_aload_n hx hb d_L_law_459 rfl (lv_at hl 1 rfl) ?_
  refine lv_iconst (v := 1) hx hb d_L_law_460 (by decide) ?_
  refine lv_iload hx hb d_L_law_461 (lv_at hl 8 rfl) ?_
  refine lv_iconst (v := 4) hx hb d_L_law_463 (by decide) ?_
  refine lv_ishr hx hb d_L_law_464 ?_
  refine lv_bipush (v := 20) hx hb d_L_law_465 (by decide) ?_
  refine v_L_low l D ct st C0 20 (by decide) ⟨by omega, by omega⟩ hT.2.2 ⟨by omega, by omega⟩ hl.1 (Nat.le_of_ble_eq_true rfl) d_L_law_467 (fun r_467 hr_467 => ?_)
  refine q_iadd (v := nI (1 + r_467)) hx hb d_L_law_470 (nI_add 1 r_467) ?_
  refine u_tick l D ct st C0 a hI (by omega) (1 + r_467) ⟨by omega, by omega⟩ ⟨by omega, by omega⟩ hT hl.1 (Nat.le_of_ble_eq_true rfl) d_L_law_471 (fun w1 H locs hI1 ⟨hs1a, hs1b, hs1c⟩ hT => ?_)
  refine lv_istore (lv' := [(6, .int (nI w1.cnt)), (0, .ref b9), (1, .ref (a.wa 0)), (2, .int v), (3, .int (nI n9)), (4, .int (nI most)), (5, .int 1), (7, .int (nI t)), (8, .int wv)]) hx hb d_L_law_474 hl (by decide) rfl (fun ls hl => ?_)
  refine lv_iload hx hb d_L_law_476 (lv_at hl 0 rfl) ?_
  refine lv_aload_n hx hb d_L_law_478 rfl (lv_at hl 2 rfl) ?_
  refine u_fronts l D ct st C0 a hI1 (by omega)  ⟨by omega, by omega⟩ hT hl.1 (Nat.le_of_ble_eq_true rfl) d_L_law_479 (?_)
  refine q_icmp_ne_n (a := w1.cnt) (b := w1.cnt) (tgt := 496) hx hb d_L_law_482 (by decide) rfl rfl (by omega) (by omega) (fun h_482 => absurd rfl h_482) (fun h_482 => ?_)
  refine lv_iload hx hb d_L_law_485 (lv_at hl 0 rfl) ?_
  refine lv_bipush (v := 8) hx hb d_L_law_487 (by decide) ?_
  refine q_icmp_gt_n (a := w1.cnt) (b := 8) (tgt := 496) hx hb d_L_law_489 (by decide) rfl rfl (by omega) (by omega) (fun h_489 => absurd h_489 (by omega)) (fun h_489 => ?_)
  refine lv_iconst (v := 1) hx hb d_L_law_492 (by decide) ?_
  refine lv_goto (tgt := 497) hx hb d_L_law_493 (by decide) ?_
  refine lv_istore (lv' := [(5, .int 1), (6, .int (nI w1.cnt)), (0, .ref b9), (1, .ref (a.wa 0)), (2, .int v), (3, .int (nI n9)), (4, .int (nI most)), (7, .int (nI t)), (8, .int wv)]) hx hb d_L_law_497 hl (by decide) rfl (fun ls hl => ?_)
  refine lv_goto (tgt := 650) hx hb d_L_law_499 (by decide) ?_
  exact kk w1 x sl H locs ls _ _ hI1.mono ⟨hs1a.trans hn, by rw [hs1b]; exact hnd⟩ hIK (by omega) (by omega) (lv_sub hl [2, 3, 4, 5, 6, 0, 1, 7, 8] rfl) hT
set_option maxHeartbeats 2000000 in
set_option maxRecDepth 100000 in
theorem g_pipe {p : Program} {e : Env} {R : Room} {s : State} {m : MethodId} {below : List Frame} {meth : Method} {c : Code} {H : Heap} {locs : List Loc} {cells slots : Nat} {Q : State → Prop} {ls : Array Slot} {A : Nat → Prop} {a0 : Cond} (l : Launch) (D : va_G) (ct : Nat → ClassId) (st : Nat → Nat) {b9 L9 : Nat} {xs : Nat → Int32} (C0 : LX p l R s m c b9 L9 xs D ct st A a0) (a : AD) {w : NW} {x : SC} {sl : Nat → Option (SD × NW)} {k : Nat} (n9 most t : Nat) (v wv : Int32)  (hI : PI k w) (hk : k + 2 < 512) (hn : w.T.n = n9) (hnd : ¬ w.nd = 0) (hIK : InvK x sl) (hro : cells + 39 ≤ R.cells ∧ slots + 3726 ≤ R.slots) (hT : ST D ct A s a w x sl H locs) (hl : lv_has ls 13 [(0, .ref b9), (1, .ref (a.wa 0)), (2, .int v), (3, .int (nI n9)), (4, .int (nI most)), (5, .int 1), (6, .int (nI w.cnt)), (7, .int (nI t)), (8, .int wv)])
    (kk : KK p l e R s m b9 below meth c Q D ct A a n9 most t v wv k cells slots)
    : W p l e R s m #[Value.ref b9] below meth c H locs cells slots Q (F0 m 509 ls []) := by
  have C1 := C0
  obtain ⟨hx, hb, hml, hown, hts, hE, hV, hA, hXs, hbl, hbA, hRf, hRl, hL9⟩ := C1
  have h32 := hI.n32
  have h300 := hI.ns300
  have h8 := hI.c8
  refine lv_aload_n hx hb d_L_law_509 rfl (lv_at hl 1 rfl) ?_
  refine lv_iload hx hb d_L_law_510 (lv_at hl 8 rfl) ?_
  refine lv_iconst (v := 4) hx hb d_L_law_512 (by decide) ?_
  refine lv_ishr hx hb d_L_law_513 ?_
  refine lv_bipush (v := 101) hx hb d_L_law_514 (by decide) ?_
  refine v_L_low l D ct st C0 101 (by decide) ⟨by omega, by omega⟩ hT.2.2 ⟨by omega, by omega⟩ hl.1 (Nat.le_of_ble_eq_true rfl) d_L_law_516 (fun r_516 hr_516 => ?_)
  refine u_valve l D ct st C0 a hI (by omega) r_516 (by omega) hnd ⟨by omega, by omega⟩ hT hl.1 (Nat.le_of_ble_eq_true rfl) d_L_law_519 (fun w1 o9 H locs hI1 hs1 hT => ?_)
  have hnd1 : ¬ w1.nd = 0 := by rw [hs1.2.1]; exact hnd
  refine lv_pop hx hb d_L_law_522 rfl ?_
  refine lv_aload_n hx hb d_L_law_523 rfl (lv_at hl 1 rfl) ?_
  refine lv_iconst (v := 1) hx hb d_L_law_524 (by decide) ?_
  refine lv_iload hx hb d_L_law_525 (lv_at hl 8 rfl) ?_
  refine lv_bipush (v := 6) hx hb d_L_law_527 (by decide) ?_
  refine lv_ishr hx hb d_L_law_529 ?_
  refine lv_bipush (v := 10) hx hb d_L_law_530 (by decide) ?_
  refine v_L_low l D ct st C0 10 (by decide) ⟨by omega, by omega⟩ hT.2.2 ⟨by omega, by omega⟩ hl.1 (Nat.le_of_ble_eq_true rfl) d_L_law_532 (fun r_532 hr_532 => ?_)
  refine q_iadd (v := nI (1 + r_532)) hx hb d_L_law_535 (nI_add 1 r_532) ?_
  refine u_flow l D ct st C0 a hI1 (by omega) (1 + r_532) ⟨by omega, by omega⟩ hnd1 ⟨by omega, by omega⟩ hT hl.1 (Nat.le_of_ble_eq_true rfl) d_L_law_536 (fun w2 k9 H locs hk9 hI2 hs2 hT => ?_)
  have hnd2 : ¬ w2.nd = 0 := by rw [hs2.2.1]; exact hnd1
  have hq9 := hI2.node hnd2
  refine lv_bipush (v := 10) hx hb d_L_law_539 (by decide) ?_
  refine q_icmp_gt_n (a := k9) (b := 10) (tgt := 563) hx hb d_L_law_541 (by decide) rfl rfl (by omega) (by omega) (fun h_541 => absurd h_541 (by omega)) (fun h_541 => ?_)
  refine lv_aload_n hx hb d_L_law_544 rfl (lv_at hl 1 rfl) ?_
  refine lv_iconst (v := 0) hx hb d_L_law_545 (by decide) ?_
  refine q_topi (v := nI 0) (by decide) ?_
  refine lv_iconst (v := 3) hx hb d_L_law_546 (by decide) ?_
  refine u_node_3 l D ct st C0 a hI2 (by omega) hnd2 ⟨by omega, by omega⟩ hT hl.1 (Nat.le_of_ble_eq_true rfl) d_L_law_547 (?_)
  refine lv_aload_n hx hb d_L_law_550 rfl (lv_at hl 1 rfl) ?_
  refine lv_iconst (v := 0) hx hb d_L_law_551 (by decide) ?_
  refine q_topi (v := nI 0) (by decide) ?_
  refine lv_iconst (v := 0) hx hb d_L_law_552 (by decide) ?_
  refine u_node_0 l D ct st C0 a hI2 (by omega) hnd2 ⟨by omega, by omega⟩ hT hl.1 (Nat.le_of_ble_eq_true rfl) d_L_law_553 (?_)
  refine lv_icmp_lt (tgt := 563) hx hb d_L_law_556 (by decide) (fun h_556 => absurd h_556 hq9) (fun h_556 => ?_)
  refine lv_iconst (v := 1) hx hb d_L_law_559 (by decide) ?_
  refine lv_goto (tgt := 564) hx hb d_L_law_560 (by decide) ?_
  refine lv_istore (lv' := [(5, .int 1), (0, .ref b9), (1, .ref (a.wa 0)), (2, .int v), (3, .int (nI n9)), (4, .int (nI most)), (6, .int (nI w.cnt)), (7, .int (nI t)), (8, .int wv)]) hx hb d_L_law_564 hl (by decide) rfl (fun ls hl => ?_)
  refine lv_goto (tgt := 650) hx hb d_L_law_566 (by decide) ?_
  exact kk w2 x sl H locs ls _ _ hI2 ⟨(hs2.1.trans hs1.1).trans hn, hnd2⟩ hIK (by omega) (by omega) (by rw [hs2.2.2, hs1.2.2]; exact lv_sub hl [1, 2, 3, 4, 5, 0, 6, 7, 8] rfl) hT
theorem NW.like.like_ns {w w1 : NW} (h : NW.like w w1) : w1.T.ns = w.T.ns := h.1.1.2.2.2.2.2.2.2
theorem NW.like.like_M {w w1 : NW} (h : NW.like w w1) : w1.T.M 0 = w.T.M 0 := (h.1.2.1 0 (by omega)).1
theorem NW.like.like_n {w w1 : NW} (h : NW.like w w1) : w1.T.n = w.T.n := h.1.1.2.2.2.2.1
theorem NW.like.like_nd {w w1 : NW} (h : NW.like w w1) : w1.nd = w.nd := h.2.2.2.2.1.1
theorem NW.like.like_cnt {w w1 : NW} (h : NW.like w w1) : w1.cnt = w.cnt := h.2.2.2.1.1
set_option maxHeartbeats 2000000 in
set_option maxRecDepth 100000 in
theorem g_617 {p : Program} {e : Env} {R : Room} {s : State} {m : MethodId} {below : List Frame} {meth : Method} {c : Code} {H : Heap} {locs : List Loc} {cells slots : Nat} {Q : State → Prop} {ls : Array Slot} {A : Nat → Prop} {a0 : Cond} (l : Launch) (D : va_G) (ct : Nat → ClassId) (st : Nat → Nat) {b9 L9 : Nat} {xs : Nat → Int32} (C0 : LX p l R s m c b9 L9 xs D ct st A a0) (a : AD) {w0 w : NW} {x : SC} {sl : Nat → Option (SD × NW)} {k : Nat} (n9 most t : Nat) (v wv : Int32) (j9 : Nat) (hj : j9 < 4) (d : SD) (wS : NW) (z1 : sl j9 = some (d, wS)) (z2 : x.kf j9 = some (d.ob 0)) (hlk : NW.like w0 wS) (c0 s0 : Nat) (hc0 : cells ≤ c0 + 39 ∧ slots ≤ s0 + 3726) (hI : PI k w0) (hk : k + 2 < 512) (hn : w0.T.n = n9) (hnd : ¬ w0.nd = 0) (hIK : InvK x sl) (hro : cells ≤ R.cells ∧ slots ≤ R.slots) (hT : ST D ct A s a w x sl H locs) (hl : lv_has ls 13 [(0, .ref b9), (1, .ref (a.wa 0)), (2, .int v), (3, .int (nI n9)), (4, .int (nI most)), (5, .int 1), (6, .int (nI w0.cnt)), (7, .int (nI t)), (8, .int wv), (10, .int (nI j9)), (11, .int (w_gr (w0.T.M 0))), (12, .int (nI w0.T.ns))])
    (kk : KK p l e R s m b9 below meth c Q D ct A a n9 most t v wv k c0 s0)
    : W p l e R s m #[Value.ref b9] below meth c H locs cells slots Q (F0 m 617 ls []) := by
  have C1 := C0
  obtain ⟨hx, hb, hml, hown, hts, hE, hV, hA, hXs, hbl, hbA, hRf, hRl, hL9⟩ := C1
  have h300 := hI.ns300
  have hcS : wS.cS ≤ 512 := by have := (hI.like hlk).cS; omega
  refine lv_aload_n hx hb d_L_law_617 rfl (lv_at hl 1 rfl) ?_
  refine lv_iload hx hb d_L_law_618 (lv_at hl 9 rfl) ?_
  refine u_goBack l D ct st C0 a  j9 hj d wS z1 z2 hcS ⟨by omega, by omega⟩ hT hl.1 (Nat.le_of_ble_eq_true rfl) d_L_law_620 (fun w3 H locs hlk3 hT => ?_)
  have hI3 := (hI.like hlk).like hlk3
  have hns3 : w3.T.ns = w0.T.ns := hlk3.like_ns.trans hlk.like_ns
  have h32 := hI3.n32
  refine lv_aload_n hx hb d_L_law_623 rfl (lv_at hl 1 rfl) ?_
  refine u_steps l D ct st C0 a hI3 (by omega)  ⟨by omega, by omega⟩ hT hl.1 (Nat.le_of_ble_eq_true rfl) d_L_law_624 (?_)
  refine lv_iload hx hb d_L_law_627 (lv_at hl 11 rfl) ?_
  refine q_icmp_ne_n (a := w3.T.ns) (b := w0.T.ns) (tgt := 647) hx hb d_L_law_629 (by decide) rfl rfl (by omega) (by omega) (fun h_629 => absurd hns3 h_629) (fun h_629 => ?_)
  refine lv_aload_n hx hb d_L_law_632 rfl (lv_at hl 1 rfl) ?_
  refine lv_iconst (v := 0) hx hb d_L_law_633 (by decide) ?_
  refine q_topi (v := nI 0) (by decide) ?_
  refine lv_iconst (v := 0) hx hb d_L_law_634 (by decide) ?_
  refine u_tube_0 l D ct st C0 a hI3 (by omega) 0 (by omega) ⟨by omega, by omega⟩ hT hl.1 (Nat.le_of_ble_eq_true rfl) d_L_law_635 (?_)
  refine q_topi (v := w_gr (w0.T.M 0)) (by rw [hlk3.like_M, hlk.like_M]) ?_
  refine lv_iload hx hb d_L_law_638 (lv_at hl 10 rfl) ?_
  refine lv_icmp_ne (tgt := 647) hx hb d_L_law_640 (by decide) (fun h_640 => absurd rfl h_640) (fun h_640 => ?_)
  refine lv_iconst (v := 1) hx hb d_L_law_643 (by decide) ?_
  refine lv_goto (tgt := 648) hx hb d_L_law_644 (by decide) ?_
  refine lv_istore (lv' := [(5, .int 1), (0, .ref b9), (1, .ref (a.wa 0)), (2, .int v), (3, .int (nI n9)), (4, .int (nI most)), (6, .int (nI w0.cnt)), (7, .int (nI t)), (8, .int wv), (10, .int (nI j9)), (11, .int (w_gr (w0.T.M 0))), (12, .int (nI w0.T.ns))]) hx hb d_L_law_648 hl (by decide) rfl (fun ls hl => ?_)
  exact kk w3 x sl H locs ls _ _ hI3.mono.mono ⟨(hlk3.like_n.trans hlk.like_n).trans hn, by rw [hlk3.like_nd, hlk.like_nd]; exact hnd⟩ hIK (by omega) (by omega) (by rw [hlk3.like_cnt, hlk.like_cnt]; exact lv_sub hl [1, 2, 3, 4, 5, 0, 6, 7, 8] rfl) hT
set_option maxHeartbeats 2000000 in
set_option maxRecDepth 100000 in
theorem g_585 {p : Program} {e : Env} {R : Room} {s : State} {m : MethodId} {below : List Frame} {meth : Method} {c : Code} {H : Heap} {locs : List Loc} {cells slots : Nat} {Q : State → Prop} {ls : Array Slot} {A : Nat → Prop} {a0 : Cond} (l : Launch) (D : va_G) (ct : Nat → ClassId) (st : Nat → Nat) {b9 L9 : Nat} {xs : Nat → Int32} (C0 : LX p l R s m c b9 L9 xs D ct st A a0) (a : AD) {w : NW} {x : SC} {sl : Nat → Option (SD × NW)} {k : Nat} (n9 most t : Nat) (v wv : Int32) (j9 : Nat) (hj : j9 < 4) (d : SD) (wS : NW) (z1 : sl j9 = some (d, wS)) (z2 : x.kf j9 = some (d.ob 0)) (hlk : NW.like w wS) (c0 s0 : Nat) (hc0 : cells ≤ c0 + 39 ∧ slots ≤ s0 + 3726) (hI : PI k w) (hk : k + 2 < 512) (hn : w.T.n = n9) (hnd : ¬ w.nd = 0) (hIK : InvK x sl) (hro : cells ≤ R.cells ∧ slots ≤ R.slots) (hT : ST D ct A s a w x sl H locs) (hl : lv_has ls 13 [(0, .ref b9), (1, .ref (a.wa 0)), (2, .int v), (3, .int (nI n9)), (4, .int (nI most)), (5, .int 1), (6, .int (nI w.cnt)), (7, .int (nI t)), (8, .int wv), (10, .int (nI j9))])
    (kk : KK p l e R s m b9 below meth c Q D ct A a n9 most t v wv k c0 s0)
    : W p l e R s m #[Value.ref b9] below meth c H locs cells slots Q (F0 m 585 ls []) := by
  have C1 := C0
  obtain ⟨hx, hb, hml, hown, hts, hE, hV, hA, hXs, hbl, hbA, hRf, hRl, hL9⟩ := C1
  have h32 := hI.n32
  have h300 := hI.ns300
  refine lv_aload_n hx hb d_L_law_585 rfl (lv_at hl 1 rfl) ?_
  refine lv_iconst (v := 0) hx hb d_L_law_586 (by decide) ?_
  refine q_topi (v := nI 0) (by decide) ?_
  refine lv_iconst (v := 0) hx hb d_L_law_587 (by decide) ?_
  refine u_tube_0 l D ct st C0 a hI (by omega) 0 (by omega) ⟨by omega, by omega⟩ hT hl.1 (Nat.le_of_ble_eq_true rfl) d_L_law_588 (?_)
  refine lv_istore (lv' := [(11, .int (w_gr (w.T.M 0))), (0, .ref b9), (1, .ref (a.wa 0)), (2, .int v), (3, .int (nI n9)), (4, .int (nI most)), (5, .int 1), (6, .int (nI w.cnt)), (7, .int (nI t)), (8, .int wv), (10, .int (nI j9))]) hx hb d_L_law_591 hl (by decide) rfl (fun ls hl => ?_)
  refine lv_aload_n hx hb d_L_law_593 rfl (lv_at hl 2 rfl) ?_
  refine u_steps l D ct st C0 a hI (by omega)  ⟨by omega, by omega⟩ hT hl.1 (Nat.le_of_ble_eq_true rfl) d_L_law_594 (?_)
  refine lv_istore (lv' := [(12, .int (nI w.T.ns)), (11, .int (w_gr (w.T.M 0))), (0, .ref b9), (1, .ref (a.wa 0)), (2, .int v), (3, .int (nI n9)), (4, .int (nI most)), (5, .int 1), (6, .int (nI w.cnt)), (7, .int (nI t)), (8, .int wv), (10, .int (nI j9))]) hx hb d_L_law_597 hl (by decide) rfl (fun ls hl => ?_)
  refine lv_iload hx hb d_L_law_599 (lv_at hl 0 rfl) ?_
  refine lv_iconst (v := 3) hx hb d_L_law_601 (by decide) ?_
  refine q_iadd (v := nI (w.T.ns + 3)) hx hb d_L_law_602 (nI_add w.T.ns 3) ?_
  refine lv_sipush (v := 300) hx hb d_L_law_603 (by decide) ?_
  refine q_icmp_gt_n (a := w.T.ns + 3) (b := 300) (tgt := 617) hx hb d_L_law_606 (by decide) rfl rfl (by omega) (by omega) (fun h_606 => ?_) (fun h_606 => ?_)
  · exact g_617 l D ct st C0 a n9 most t v wv j9 hj d wS z1 z2 hlk c0 s0 hc0 hI hk hn hnd hIK hro hT (lv_sub hl [2, 3, 4, 5, 6, 7, 8, 9, 10, 11, 1, 0] rfl) kk
  · refine lv_aload_n hx hb d_L_law_609 rfl (lv_at hl 3 rfl) ?_
    refine lv_bipush (v := 7) hx hb d_L_law_610 (by decide) ?_
    refine q_topi (v := nI 7) (by decide) ?_
    refine lv_iconst (v := 3) hx hb d_L_law_612 (by decide) ?_
    refine q_topi (v := nI 3) (by decide) ?_
    refine u_step l D ct st C0 a hI (by omega) 7 3 ⟨by omega, by omega⟩ ⟨by omega, by omega⟩ (by omega) ⟨by omega, by omega⟩ hT hl.1 (Nat.le_of_ble_eq_true rfl) d_L_law_613 (fun w1 x1 k9 H locs hI1 hs1 ⟨ha9, hb9, hkf⟩ hT => ?_)
    refine lv_pop hx hb d_L_law_616 rfl ?_
    exact g_617 l D ct st C0 a n9 most t v wv j9 hj d wS z1 (by rw [hkf]; exact z2) hlk c0 s0 hc0 hI hk hn hnd (hIK.same hkf) hro hT (lv_sub hl [2, 3, 4, 5, 6, 7, 8, 9, 10, 11, 1, 0] rfl) kk
set_option maxHeartbeats 2000000 in
set_option maxRecDepth 100000 in
theorem g_keep {p : Program} {e : Env} {R : Room} {s : State} {m : MethodId} {below : List Frame} {meth : Method} {c : Code} {H : Heap} {locs : List Loc} {cells slots : Nat} {Q : State → Prop} {ls : Array Slot} {A : Nat → Prop} {a0 : Cond} (l : Launch) (D : va_G) (ct : Nat → ClassId) (st : Nat → Nat) {b9 L9 : Nat} {xs : Nat → Int32} (C0 : LX p l R s m c b9 L9 xs D ct st A a0) (a : AD) {w : NW} {x : SC} {sl : Nat → Option (SD × NW)} {k : Nat} (n9 most t : Nat) (v wv : Int32)  (hI : PI k w) (hk : k + 2 < 512) (hn : w.T.n = n9) (hnd : ¬ w.nd = 0) (hIK : InvK x sl) (hro : cells + 39 ≤ R.cells ∧ slots + 3726 ≤ R.slots) (hT : ST D ct A s a w x sl H locs) (hl : lv_has ls 13 [(0, .ref b9), (1, .ref (a.wa 0)), (2, .int v), (3, .int (nI n9)), (4, .int (nI most)), (5, .int 1), (6, .int (nI w.cnt)), (7, .int (nI t)), (8, .int wv)])
    (kk : KK p l e R s m b9 below meth c Q D ct A a n9 most t v wv k cells slots)
    : W p l e R s m #[Value.ref b9] below meth c H locs cells slots Q (F0 m 569 ls []) := by
  have C1 := C0
  obtain ⟨hx, hb, hml, hown, hts, hE, hV, hA, hXs, hbl, hbA, hRf, hRl, hL9⟩ := C1
  refine lv_iload hx hb d_L_law_569 (lv_at hl 8 rfl) ?_
  refine lv_iconst (v := 4) hx hb d_L_law_571 (by decide) ?_
  refine lv_ishr hx hb d_L_law_572 ?_
  refine lv_iconst (v := 4) hx hb d_L_law_573 (by decide) ?_
  refine v_L_low l D ct st C0 4 (by decide) ⟨by omega, by omega⟩ hT.2.2 ⟨by omega, by omega⟩ hl.1 (Nat.le_of_ble_eq_true rfl) d_L_law_574 (fun r_574 hr_574 => ?_)
  refine lv_istore (lv' := [(10, .int (nI r_574)), (0, .ref b9), (1, .ref (a.wa 0)), (2, .int v), (3, .int (nI n9)), (4, .int (nI most)), (5, .int 1), (6, .int (nI w.cnt)), (7, .int (nI t)), (8, .int wv)]) hx hb d_L_law_577 hl (by decide) rfl (fun ls hl => ?_)
  refine lv_aload_n hx hb d_L_law_579 rfl (lv_at hl 2 rfl) ?_
  refine lv_iload hx hb d_L_law_580 (lv_at hl 0 rfl) ?_
  refine u_keep l D ct st C0 a hI (by omega) r_574 hr_574 hIK ⟨by omega, by omega⟩ hT hl.1 (Nat.le_of_ble_eq_true rfl) d_L_law_582 (fun x1 sl1 d wS H locs c1 s1 hc1 hs1 z1 z2 hlk hIK1 hT => ?_)
  exact g_585 l D ct st C0 a n9 most t v wv r_574 hr_574 d wS z1 z2 hlk cells slots ⟨hc1, hs1⟩ hI hk hn hnd hIK1 ⟨by omega, by omega⟩ hT (lv_sub hl [1, 2, 3, 4, 5, 6, 7, 8, 9, 0] rfl) kk
set_option maxHeartbeats 2000000 in
set_option maxRecDepth 100000 in
theorem g_tail {p : Program} {e : Env} {R : Room} {s : State} {m : MethodId} {below : List Frame} {meth : Method} {c : Code} {H : Heap} {locs : List Loc} {cells slots : Nat} {Q : State → Prop} {ls : Array Slot} {A : Nat → Prop} {a0 : Cond} (l : Launch) (D : va_G) (ct : Nat → ClassId) (st : Nat → Nat) {b9 L9 : Nat} {xs : Nat → Int32} (C0 : LX p l R s m c b9 L9 xs D ct st A a0) (a : AD) {w : NW} {x : SC} {sl : Nat → Option (SD × NW)} {k : Nat} (n9 most t : Nat) (v wv : Int32)  (hI : PI k w) (hk : k < 512) (hn : w.T.n = n9) (hnd : ¬ w.nd = 0) (hIK : InvK x sl) (ht9 : t < 100) (hro : cells ≤ R.cells ∧ slots ≤ R.slots) (hT : ST D ct A s a w x sl H locs) (hl : lv_has ls 13 [(0, .ref b9), (1, .ref (a.wa 0)), (2, .int v), (3, .int (nI n9)), (4, .int (nI most)), (5, .int 1), (6, .int (nI w.cnt)), (7, .int (nI t)), (8, .int wv)])
    (kk : ∀ (w1 : NW) (x1 : SC) (H1 : Heap) (locs1 : List Loc) (ls1 : Array Slot), PI k w1 → (w1.T.n = n9 ∧ ¬ w1.nd = 0) → InvK x1 sl → lv_has ls1 13 (bas0 a b9 n9 most w1.cnt (t + 1) v) → ST D ct A s a w1 x1 sl H1 locs1 → W p l e R s m #[Value.ref b9] below meth c H1 locs1 cells slots Q (F0 m 175 ls1 []))
    : W p l e R s m #[Value.ref b9] below meth c H locs cells slots Q (F0 m 650 ls []) := by
  have C1 := C0
  obtain ⟨hx, hb, hml, hown, hts, hE, hV, hA, hXs, hbl, hbA, hRf, hRl, hL9⟩ := C1
  have h32 := hI.n32
  refine lv_iload hx hb d_L_law_650 (lv_at hl 8 rfl) ?_
  refine lv_iconst (v := 3) hx hb d_L_law_652 (by decide) ?_
  refine lv_ishr hx hb d_L_law_653 ?_
  refine lv_iload_n hx hb d_L_law_654 rfl (lv_at hl 3 rfl) ?_
  refine v_L_low l D ct st C0 n9 (rfl) ⟨by omega, by omega⟩ hT.2.2 ⟨by omega, by omega⟩ hl.1 (Nat.le_of_ble_eq_true rfl) d_L_law_655 (fun r_655 hr_655 => ?_)
  refine lv_istore (lv' := [(10, .int (nI r_655)), (0, .ref b9), (1, .ref (a.wa 0)), (2, .int v), (3, .int (nI n9)), (4, .int (nI most)), (5, .int 1), (6, .int (nI w.cnt)), (7, .int (nI t)), (8, .int wv)]) hx hb d_L_law_658 hl (by decide) rfl (fun ls hl => ?_)
  refine lv_iconst (v := 0) hx hb d_L_law_660 (by decide) ?_
  refine lv_istore (lv' := [(11, .int 0), (10, .int (nI r_655)), (0, .ref b9), (1, .ref (a.wa 0)), (2, .int v), (3, .int (nI n9)), (4, .int (nI most)), (5, .int 1), (6, .int (nI w.cnt)), (7, .int (nI t)), (8, .int wv)]) hx hb d_L_law_661 hl (by decide) rfl (fun ls hl => ?_)
  refine lv_iload hx hb d_L_law_663 (lv_at hl 0 rfl) ?_
  refine lv_iconst (v := 4) hx hb d_L_law_665 (by decide) ?_
  refine lv_icmp_ge (tgt := 688) hx hb d_L_law_666 (by decide) (fun h => absurd h (by decide)) (fun _ => ?_)
  refine lv_iload hx hb d_L_law_669 (lv_at hl 7 rfl) ?_
  refine lv_if_eq (tgt := 688) hx hb d_L_law_671 (by decide) (fun h => absurd h (by decide)) (fun _ => ?_)
  refine lv_aload_n hx hb d_L_law_674 rfl (lv_at hl 3 rfl) ?_
  refine lv_iload hx hb d_L_law_675 (lv_at hl 0 rfl) ?_
  refine u_isKept_0 l D ct st C0 a hI (by omega)  ⟨by omega, by omega⟩ hT hl.1 (Nat.le_of_ble_eq_true rfl) d_L_law_677 (?_)
  refine lv_istore (lv' := [(5, .int 1), (11, .int 0), (10, .int (nI r_655)), (0, .ref b9), (1, .ref (a.wa 0)), (2, .int v), (3, .int (nI n9)), (4, .int (nI most)), (6, .int (nI w.cnt)), (7, .int (nI t)), (8, .int wv)]) hx hb d_L_law_680 hl (by decide) rfl (fun ls hl => ?_)
  refine lv_iinc (v := 1) (lv' := [(11, .int 1), (5, .int 1), (10, .int (nI r_655)), (0, .ref b9), (1, .ref (a.wa 0)), (2, .int v), (3, .int (nI n9)), (4, .int (nI most)), (6, .int (nI w.cnt)), (7, .int (nI t)), (8, .int wv)]) hx hb d_L_law_682 hl (k := 1) rfl (by decide) (by decide) rfl (fun ls hl => ?_)
  refine lv_goto (tgt := 663) hx hb d_L_law_685 (by decide) ?_
  refine lv_iload hx hb d_L_law_663 (lv_at hl 0 rfl) ?_
  refine lv_iconst (v := 4) hx hb d_L_law_665 (by decide) ?_
  refine lv_icmp_ge (tgt := 688) hx hb d_L_law_666 (by decide) (fun h => absurd h (by decide)) (fun _ => ?_)
  refine lv_iload hx hb d_L_law_669 (lv_at hl 1 rfl) ?_
  refine lv_if_eq (tgt := 688) hx hb d_L_law_671 (by decide) (fun h => absurd h (by decide)) (fun _ => ?_)
  refine lv_aload_n hx hb d_L_law_674 rfl (lv_at hl 4 rfl) ?_
  refine lv_iload hx hb d_L_law_675 (lv_at hl 0 rfl) ?_
  refine u_isKept_1 l D ct st C0 a hI (by omega)  ⟨by omega, by omega⟩ hT hl.1 (Nat.le_of_ble_eq_true rfl) d_L_law_677 (?_)
  refine lv_istore (lv' := [(5, .int 1), (11, .int 1), (10, .int (nI r_655)), (0, .ref b9), (1, .ref (a.wa 0)), (2, .int v), (3, .int (nI n9)), (4, .int (nI most)), (6, .int (nI w.cnt)), (7, .int (nI t)), (8, .int wv)]) hx hb d_L_law_680 hl (by decide) rfl (fun ls hl => ?_)
  refine lv_iinc (v := 2) (lv' := [(11, .int 2), (5, .int 1), (10, .int (nI r_655)), (0, .ref b9), (1, .ref (a.wa 0)), (2, .int v), (3, .int (nI n9)), (4, .int (nI most)), (6, .int (nI w.cnt)), (7, .int (nI t)), (8, .int wv)]) hx hb d_L_law_682 hl (k := 1) rfl (by decide) (by decide) rfl (fun ls hl => ?_)
  refine lv_goto (tgt := 663) hx hb d_L_law_685 (by decide) ?_
  refine lv_iload hx hb d_L_law_663 (lv_at hl 0 rfl) ?_
  refine lv_iconst (v := 4) hx hb d_L_law_665 (by decide) ?_
  refine lv_icmp_ge (tgt := 688) hx hb d_L_law_666 (by decide) (fun h => absurd h (by decide)) (fun _ => ?_)
  refine lv_iload hx hb d_L_law_669 (lv_at hl 1 rfl) ?_
  refine lv_if_eq (tgt := 688) hx hb d_L_law_671 (by decide) (fun h => absurd h (by decide)) (fun _ => ?_)
  refine lv_aload_n hx hb d_L_law_674 rfl (lv_at hl 4 rfl) ?_
  refine lv_iload hx hb d_L_law_675 (lv_at hl 0 rfl) ?_
  refine u_isKept_2 l D ct st C0 a hI (by omega)  ⟨by omega, by omega⟩ hT hl.1 (Nat.le_of_ble_eq_true rfl) d_L_law_677 (?_)
  refine lv_istore (lv' := [(5, .int 1), (11, .int 2), (10, .int (nI r_655)), (0, .ref b9), (1, .ref (a.wa 0)), (2, .int v), (3, .int (nI n9)), (4, .int (nI most)), (6, .int (nI w.cnt)), (7, .int (nI t)), (8, .int wv)]) hx hb d_L_law_680 hl (by decide) rfl (fun ls hl => ?_)
  refine lv_iinc (v := 3) (lv' := [(11, .int 3), (5, .int 1), (10, .int (nI r_655)), (0, .ref b9), (1, .ref (a.wa 0)), (2, .int v), (3, .int (nI n9)), (4, .int (nI most)), (6, .int (nI w.cnt)), (7, .int (nI t)), (8, .int wv)]) hx hb d_L_law_682 hl (k := 1) rfl (by decide) (by decide) rfl (fun ls hl => ?_)
  refine lv_goto (tgt := 663) hx hb d_L_law_685 (by decide) ?_
  refine lv_iload hx hb d_L_law_663 (lv_at hl 0 rfl) ?_
  refine lv_iconst (v := 4) hx hb d_L_law_665 (by decide) ?_
  refine lv_icmp_ge (tgt := 688) hx hb d_L_law_666 (by decide) (fun h => absurd h (by decide)) (fun _ => ?_)
  refine lv_iload hx hb d_L_law_669 (lv_at hl 1 rfl) ?_
  refine lv_if_eq (tgt := 688) hx hb d_L_law_671 (by decide) (fun h => absurd h (by decide)) (fun _ => ?_)
  refine lv_aload_n hx hb d_L_law_674 rfl (lv_at hl 4 rfl) ?_
  refine lv_iload hx hb d_L_law_675 (lv_at hl 0 rfl) ?_
  refine u_isKept_3 l D ct st C0 a hI (by omega)  ⟨by omega, by omega⟩ hT hl.1 (Nat.le_of_ble_eq_true rfl) d_L_law_677 (?_)
  refine lv_istore (lv' := [(5, .int 1), (11, .int 3), (10, .int (nI r_655)), (0, .ref b9), (1, .ref (a.wa 0)), (2, .int v), (3, .int (nI n9)), (4, .int (nI most)), (6, .int (nI w.cnt)), (7, .int (nI t)), (8, .int wv)]) hx hb d_L_law_680 hl (by decide) rfl (fun ls hl => ?_)
  refine lv_iinc (v := 4) (lv' := [(11, .int 4), (5, .int 1), (10, .int (nI r_655)), (0, .ref b9), (1, .ref (a.wa 0)), (2, .int v), (3, .int (nI n9)), (4, .int (nI most)), (6, .int (nI w.cnt)), (7, .int (nI t)), (8, .int wv)]) hx hb d_L_law_682 hl (k := 1) rfl (by decide) (by decide) rfl (fun ls hl => ?_)
  refine lv_goto (tgt := 663) hx hb d_L_law_685 (by decide) ?_
  refine lv_iload hx hb d_L_law_663 (lv_at hl 0 rfl) ?_
  refine lv_iconst (v := 4) hx hb d_L_law_665 (by decide) ?_
  refine lv_icmp_ge (tgt := 688) hx hb d_L_law_666 (by decide) (fun _ => ?_) (fun h => absurd h (by decide))
  refine lv_iload hx hb d_L_law_688 (lv_at hl 1 rfl) ?_
  refine lv_if_eq (tgt := 768) hx hb d_L_law_690 (by decide) (fun h => absurd h (by decide)) (fun _ => ?_)
  refine lv_aload_n hx hb d_L_law_693 rfl (lv_at hl 4 rfl) ?_
  refine lv_iload hx hb d_L_law_694 (lv_at hl 2 rfl) ?_
  refine lv_iconst (v := 0) hx hb d_L_law_696 (by decide) ?_
  refine u_anew_0 l D ct st C0 a hI (by omega) r_655 (by omega) ⟨by omega, by omega⟩ hT hl.1 (Nat.le_of_ble_eq_true rfl) d_L_law_697 (fun w1 x1 H locs hI1 hs1 hkf1 y1 hy1 hT => ?_)
  have hn1 : w1.T.n = w.T.n := by rw [hs1.1]
  refine lv_aload_n hx hb d_L_law_700 rfl (lv_at hl 4 rfl) ?_
  refine lv_iload hx hb d_L_law_701 (lv_at hl 2 rfl) ?_
  refine lv_iconst (v := 0) hx hb d_L_law_703 (by decide) ?_
  refine u_tube_0 l D ct st C0 a hI1 (by omega) r_655 (by omega) ⟨by omega, by omega⟩ hT hl.1 (Nat.le_of_ble_eq_true rfl) d_L_law_704 (?_)
  refine lv_icmp_ne (tgt := 768) hx hb d_L_law_707 (by decide) (fun h_707 => absurd (by rw [hs1.1]; exact hy1) h_707) (fun h_707 => ?_)
  refine lv_aload_n hx hb d_L_law_710 rfl (lv_at hl 4 rfl) ?_
  refine lv_iload hx hb d_L_law_711 (lv_at hl 2 rfl) ?_
  refine lv_iconst (v := 2) hx hb d_L_law_713 (by decide) ?_
  refine u_anew_2 l D ct st C0 a hI1 (by omega) r_655 (by omega) ⟨by omega, by omega⟩ hT hl.1 (Nat.le_of_ble_eq_true rfl) d_L_law_714 (fun w2 x2 H locs hI2 hs2 hkf2 y2 hy2 hT => ?_)
  have hn2 : w2.T.n = w.T.n := by rw [hs2.1, hs1.1]
  have hf9 := hI2.fuel (c := r_655) (by omega)
  refine lv_aload_n hx hb d_L_law_717 rfl (lv_at hl 4 rfl) ?_
  refine lv_iload hx hb d_L_law_718 (lv_at hl 2 rfl) ?_
  refine lv_iconst (v := 2) hx hb d_L_law_720 (by decide) ?_
  refine u_tube_2 l D ct st C0 a hI2 (by omega) r_655 (by omega) ⟨by omega, by omega⟩ hT hl.1 (Nat.le_of_ble_eq_true rfl) d_L_law_721 (?_)
  refine lv_icmp_ne (tgt := 768) hx hb d_L_law_724 (by decide) (fun h_724 => absurd (by rw [hs2.1]; exact hy2) h_724) (fun h_724 => ?_)
  refine lv_aload_n hx hb d_L_law_727 rfl (lv_at hl 4 rfl) ?_
  refine lv_iload hx hb d_L_law_728 (lv_at hl 2 rfl) ?_
  refine lv_iconst (v := 3) hx hb d_L_law_730 (by decide) ?_
  refine u_tube_3 l D ct st C0 a hI2 (by omega) r_655 (by omega) ⟨by omega, by omega⟩ hT hl.1 (Nat.le_of_ble_eq_true rfl) d_L_law_731 (?_)
  refine lv_if_lt (tgt := 768) hx hb d_L_law_734 (by decide) (fun h_734 => absurd h_734 hf9.1) (fun h_734 => ?_)
  refine lv_aload_n hx hb d_L_law_737 rfl (lv_at hl 4 rfl) ?_
  refine lv_iload hx hb d_L_law_738 (lv_at hl 2 rfl) ?_
  refine lv_iconst (v := 3) hx hb d_L_law_740 (by decide) ?_
  refine u_tube_3 l D ct st C0 a hI2 (by omega) r_655 (by omega) ⟨by omega, by omega⟩ hT hl.1 (Nat.le_of_ble_eq_true rfl) d_L_law_741 (?_)
  refine lv_aload_n hx hb d_L_law_744 rfl (lv_at hl 4 rfl) ?_
  refine lv_iload hx hb d_L_law_745 (lv_at hl 2 rfl) ?_
  refine lv_iconst (v := 0) hx hb d_L_law_747 (by decide) ?_
  refine u_tube_0 l D ct st C0 a hI2 (by omega) r_655 (by omega) ⟨by omega, by omega⟩ hT hl.1 (Nat.le_of_ble_eq_true rfl) d_L_law_748 (?_)
  refine lv_icmp_gt (tgt := 768) hx hb d_L_law_751 (by decide) (fun h_751 => absurd h_751 hf9.2.1) (fun h_751 => ?_)
  refine lv_aload_n hx hb d_L_law_754 rfl (lv_at hl 4 rfl) ?_
  refine lv_iload hx hb d_L_law_755 (lv_at hl 2 rfl) ?_
  refine lv_iconst (v := 4) hx hb d_L_law_757 (by decide) ?_
  refine u_tube_4 l D ct st C0 a hI2 (by omega) r_655 (by omega) ⟨by omega, by omega⟩ hT hl.1 (Nat.le_of_ble_eq_true rfl) d_L_law_758 (?_)
  refine lv_if_lt (tgt := 768) hx hb d_L_law_761 (by decide) (fun h_761 => absurd h_761 hf9.2.2) (fun h_761 => ?_)
  refine lv_iconst (v := 1) hx hb d_L_law_764 (by decide) ?_
  refine lv_goto (tgt := 769) hx hb d_L_law_765 (by decide) ?_
  refine lv_istore (lv' := [(5, .int 1), (11, .int 4), (10, .int (nI r_655)), (0, .ref b9), (1, .ref (a.wa 0)), (2, .int v), (3, .int (nI n9)), (4, .int (nI most)), (6, .int (nI w.cnt)), (7, .int (nI t)), (8, .int wv)]) hx hb d_L_law_769 hl (by decide) rfl (fun ls hl => ?_)
  refine lv_iinc (v := (nI (t + 1))) (lv' := [(7, .int (nI (t + 1))), (5, .int 1), (11, .int 4), (10, .int (nI r_655)), (0, .ref b9), (1, .ref (a.wa 0)), (2, .int v), (3, .int (nI n9)), (4, .int (nI most)), (6, .int (nI w.cnt)), (8, .int wv)]) hx hb d_L_law_771 hl (k := 9) rfl (nI_1 _) (by decide) rfl (fun ls hl => ?_)
  refine lv_goto (tgt := 175) hx hb d_L_law_774 (by decide) ?_
  exact kk w2 x2 H locs ls hI2 ⟨hn2.trans hn, by rw [hs2.2.1, hs1.2.1]; exact hnd⟩ (hIK.same (hkf2.trans hkf1)) (by rw [hs2.2.2, hs1.2.2]; exact lv_sub hl [4, 5, 6, 7, 8, 1, 9, 0] rfl) hT
set_option maxHeartbeats 2000000 in
set_option maxRecDepth 100000 in
theorem g_turn {p : Program} {e : Env} {R : Room} {s : State} {m : MethodId} {below : List Frame} {meth : Method} {c : Code} {H : Heap} {locs : List Loc} {cells slots : Nat} {Q : State → Prop} {ls : Array Slot} {A : Nat → Prop} {a0 : Cond} (l : Launch) (D : va_G) (ct : Nat → ClassId) (st : Nat → Nat) {b9 L9 : Nat} {xs : Nat → Int32} (C0 : LX p l R s m c b9 L9 xs D ct st A a0) (a : AD) {w : NW} {x : SC} {sl : Nat → Option (SD × NW)} {k : Nat} (n9 most t : Nat) (v wv : Int32)  (hI : PI k w) (hk : k + 2 < 512) (hn : w.T.n = n9) (hnd : ¬ w.nd = 0) (hIK : InvK x sl) (hro : cells + 39 ≤ R.cells ∧ slots + 3726 ≤ R.slots) (hT : ST D ct A s a w x sl H locs) (hl : lv_has ls 13 [(0, .ref b9), (1, .ref (a.wa 0)), (2, .int v), (3, .int (nI n9)), (4, .int (nI most)), (5, .int 1), (6, .int (nI w.cnt)), (7, .int (nI t)), (8, .int wv)])
    (kk : KK p l e R s m b9 below meth c Q D ct A a n9 most t v wv k cells slots)
    : W p l e R s m #[Value.ref b9] below meth c H locs cells slots Q (F0 m 195 ls []) := by
  have C1 := C0
  obtain ⟨hx, hb, hml, hown, hts, hE, hV, hA, hXs, hbl, hbA, hRf, hRl, hL9⟩ := C1
  have h8 := hI.c8
  refine lv_iload hx hb d_L_law_195 (lv_at hl 8 rfl) ?_
  refine lv_bipush (v := 10) hx hb d_L_law_197 (by decide) ?_
  refine v_L_low l D ct st C0 10 (by decide) ⟨by omega, by omega⟩ hT.2.2 ⟨by omega, by omega⟩ hl.1 (Nat.le_of_ble_eq_true rfl) d_L_law_199 (fun r_199 hr_199 => ?_)
  refine lv_istore (lv' := [(9, .int (nI r_199)), (0, .ref b9), (1, .ref (a.wa 0)), (2, .int v), (3, .int (nI n9)), (4, .int (nI most)), (5, .int 1), (6, .int (nI w.cnt)), (7, .int (nI t)), (8, .int wv)]) hx hb d_L_law_202 hl (by decide) rfl (fun ls hl => ?_)
  refine lv_iload hx hb d_L_law_204 (lv_at hl 0 rfl) ?_
  refine lv_iconst (v := 3) hx hb d_L_law_206 (by decide) ?_
  refine q_icmp_ge_n (a := r_199) (b := 3) (tgt := 290) hx hb d_L_law_207 (by decide) rfl rfl (by omega) (by omega) (fun h_207 => ?_) (fun h_207 => ?_)
  · refine lv_iload hx hb d_L_law_290 (lv_at hl 0 rfl) ?_
    refine lv_bipush (v := 6) hx hb d_L_law_292 (by decide) ?_
    refine q_icmp_ge_n (a := r_199) (b := 6) (tgt := 368) hx hb d_L_law_294 (by decide) rfl rfl (by omega) (by omega) (fun h_294 => ?_) (fun h_294 => ?_)
    · refine lv_iload hx hb d_L_law_368 (lv_at hl 0 rfl) ?_
      refine lv_bipush (v := 6) hx hb d_L_law_370 (by decide) ?_
      refine q_icmp_ne_n (a := r_199) (b := 6) (tgt := 452) hx hb d_L_law_372 (by decide) rfl rfl (by omega) (by omega) (fun h_372 => ?_) (fun h_372 => ?_)
      · refine lv_iload hx hb d_L_law_452 (lv_at hl 0 rfl) ?_
        refine lv_bipush (v := 7) hx hb d_L_law_454 (by decide) ?_
        refine q_icmp_ne_n (a := r_199) (b := 7) (tgt := 502) hx hb d_L_law_456 (by decide) rfl rfl (by omega) (by omega) (fun h_456 => ?_) (fun h_456 => ?_)
        · refine lv_iload hx hb d_L_law_502 (lv_at hl 0 rfl) ?_
          refine lv_bipush (v := 8) hx hb d_L_law_504 (by decide) ?_
          refine q_icmp_ne_n (a := r_199) (b := 8) (tgt := 569) hx hb d_L_law_506 (by decide) rfl rfl (by omega) (by omega) (fun h_506 => ?_) (fun h_506 => ?_)
          · exact g_keep l D ct st C0 a n9 most t v wv hI hk hn hnd hIK  hro hT (lv_sub hl [1, 2, 3, 4, 5, 6, 7, 8, 9] rfl) kk
          · exact g_pipe l D ct st C0 a n9 most t v wv hI hk hn hnd hIK  hro hT (lv_sub hl [1, 2, 3, 4, 5, 6, 7, 8, 9] rfl) kk
        · exact g_tick l D ct st C0 a n9 most t v wv hI hk hn hnd hIK  hro hT (lv_sub hl [1, 2, 3, 4, 5, 6, 7, 8, 9] rfl) kk
      · refine lv_iload hx hb d_L_law_375 (lv_at hl 7 rfl) ?_
        refine lv_bipush (v := 8) hx hb d_L_law_377 (by decide) ?_
        refine q_icmp_ge_n (a := w.cnt) (b := 8) (tgt := 452) hx hb d_L_law_379 (by decide) rfl rfl (by omega) (by omega) (fun h_379 => ?_) (fun h_379 => ?_)
        · refine lv_iload hx hb d_L_law_452 (lv_at hl 0 rfl) ?_
          refine lv_bipush (v := 7) hx hb d_L_law_454 (by decide) ?_
          refine q_icmp_ne_n (a := r_199) (b := 7) (tgt := 502) hx hb d_L_law_456 (by decide) rfl rfl (by omega) (by omega) (fun h_456 => ?_) (fun h_456 => ?_)
          · refine lv_iload hx hb d_L_law_502 (lv_at hl 0 rfl) ?_
            refine lv_bipush (v := 8) hx hb d_L_law_504 (by decide) ?_
            refine q_icmp_ne_n (a := r_199) (b := 8) (tgt := 569) hx hb d_L_law_506 (by decide) rfl rfl (by omega) (by omega) (fun h_506 => ?_) (fun h_506 => ?_)
            · exact g_keep l D ct st C0 a n9 most t v wv hI hk hn hnd hIK  hro hT (lv_sub hl [1, 2, 3, 4, 5, 6, 7, 8, 9] rfl) kk
            · exact g_pipe l D ct st C0 a n9 most t v wv hI hk hn hnd hIK  hro hT (lv_sub hl [1, 2, 3, 4, 5, 6, 7, 8, 9] rfl) kk
          · exact g_tick l D ct st C0 a n9 most t v wv hI hk hn hnd hIK  hro hT (lv_sub hl [1, 2, 3, 4, 5, 6, 7, 8, 9] rfl) kk
        · exact g_front l D ct st C0 a n9 most t v wv hI hk hn hnd hIK h_379 hro hT (lv_sub hl [1, 2, 3, 4, 5, 6, 7, 8, 9] rfl) kk
    · exact g_step l D ct st C0 a n9 most t v wv hI hk hn hnd hIK  hro hT (lv_sub hl [1, 2, 3, 4, 5, 6, 7, 8, 9] rfl) kk
  · exact g_cell l D ct st C0 a n9 most t v wv hI hk hn hnd hIK  hro hT (lv_sub hl [1, 2, 3, 4, 5, 6, 7, 8, 9] rfl) kk
