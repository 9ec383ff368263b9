set_option maxHeartbeats 2000000 in
set_option maxRecDepth 100000 in
theorem law_loop {p : Program} {e : Env} {R : Room} {s : State} {m : MethodId} {below : List Frame} {meth : Method} {c : Code} {Q : State → Prop} {A : Nat → Prop} {a0 : Cond} (l : Launch) (D : va_G) (ct : Nat → ClassId) (st : Nat → Nat) {b9 L9 : Nat} {xs : Nat → Int32} (C0 : LX p l R s m c b9 L9 xs D ct st A a0) (a : AD) (n9 most : Nat) (v : Int32) (hmost : most ≤ 80) (hroom : 10000 ≤ R.cells ∧ 400000 ≤ R.slots)
    (hend : ∀ (H : Heap) (locs : List Loc) (ls : Array Slot) (cells slots : Nat), cells ≤ R.cells → slots ≤ R.slots → va_S A s.heap H locs → W p l e R s m #[Value.ref b9] below meth c H locs cells slots Q (F0 m 779 ls [.int 1])) :
    ∀ (r t : Nat) (w : NW) (x : SC) (sl : Nat → Option (SD × NW)) (H : Heap) (locs : List Loc) (ls : Array Slot) (cells slots : Nat), 100 ≤ r + t → t ≤ 81 → cells ≤ 200 + 39 * t → slots ≤ 6000 + 3726 * t → PI (3 + 2 * t) w → w.T.n = n9 → ¬ w.nd = 0 → InvK x sl → ST D ct A s a w x sl H locs → lv_has ls 13 (bas0 a b9 n9 most w.cnt t v) → W p l e R s m #[Value.ref b9] below meth c H locs cells slots Q (F0 m 175 ls []) := by
  have C1 := C0
  obtain ⟨hx, hb, hml, hown, hts, hE, hV, hA, hXs, hbl, hbA, hRf, hRl, hL9⟩ := C1
  intro r
  induction r with
  | zero => intro t w x sl H locs ls cells slots h1 h2; exact absurd h1 (by omega)
  | succ r ih =>
    intro t w x sl H locs ls cells slots h1 h2 h3 h4 hI hn hnd hIK hT hl
    refine lv_iload hx hb d_L_law_175 (lv_at hl 7 rfl) ?_
    refine lv_iload hx hb d_L_law_177 (lv_at hl 4 rfl) ?_
    refine q_icmp_ge_n (a := t) (b := most) (tgt := 777) hx hb d_L_law_179 (by decide) rfl rfl (by omega) (by omega) (fun h_179 => ?_) (fun h_179 => ?_)
    · refine lv_iload hx hb d_L_law_777 (lv_at hl 5 rfl) ?_
      exact hend H locs ls cells slots (by omega) (by omega) hT.2.2
    · refine lv_iload hx hb d_L_law_182 (lv_at hl 5 rfl) ?_
      refine lv_if_eq (tgt := 777) hx hb d_L_law_184 (by decide) (fun h => absurd h (by decide)) (fun _ => ?_)
      refine lv_aload_n hx hb d_L_law_187 rfl (lv_at hl 0 rfl) ?_
      refine lv_iload hx hb d_L_law_188 (lv_at hl 7 rfl) ?_
      refine v_L_cell l D ct st C0 t (by omega) hT.2.2 ⟨by omega, by omega⟩ hl.1 (Nat.le_of_ble_eq_true rfl) d_L_law_190 (fun wv => ?_)
      refine lv_istore (lv' := [(8, .int wv), (0, .ref b9), (1, .ref (a.wa 0)), (2, .int v), (3, .int (nI n9)), (4, .int (nI most)), (5, .int 1), (6, .int (nI w.cnt)), (7, .int (nI t))]) hx hb d_L_law_193 hl (by decide) rfl (fun ls1 hl1 => ?_)
      refine g_turn l D ct st C0 a n9 most t v wv hI (by omega) hn hnd hIK ⟨by omega, by omega⟩ hT (lv_sub hl1 [1, 2, 3, 4, 5, 6, 7, 8, 0] rfl) ?_
      intro w1 x1 sl1 H1 locs1 ls2 c1 s1 hI1 hs1 hIK1 hc1 hss1 hl2 hT1
      refine g_tail l D ct st C0 a n9 most t v wv hI1 (by omega) hs1.1 hs1.2 hIK1 (by omega) ⟨by omega, by omega⟩ hT1 hl2 ?_
      intro w2 x2 H2 locs2 ls3 hI2 hs2 hIK2 hl3 hT2
      have e9 : 3 + 2 * (t + 1) = 3 + 2 * t + 2 := by omega
      exact ih (t + 1) w2 x2 sl1 H2 locs2 ls3 c1 s1 (by omega) (by omega) (by omega) (by omega) (by rw [e9]; exact hI2) hs2.1 hs2.2 hIK2 hT2 hl3
