set_option maxHeartbeats 4000000 in
set_option maxRecDepth 100000 in
theorem c_Laws_ignite (l : Launch) (D : va_G) (ct : Nat → ClassId) (st : Nat → Nat) (la : Nat) (g : Nat) (ign : Int32) (part : Int32) (heat : Int32) (xa : Int32) (xb : Int32) (xc : Int32) (sz : Nat) : Met l y_Laws_ignite (wsy y_Laws_ignite b_Laws_ignite 4 (none)) (rmW 0 0 0 0) (PcW D ct st [.ref la, .int xa, .int xb, .int xc] [(la, .inr (1, [.int (nI g), .int ign, .int part, .int heat]))] sz) (QcW D [(la, .inr (1, [.int (nI g), .int ign, .int part, .int heat]))] sz (fun v W1 => v = none ∧ W1 = [(la, .inr (1, [.int (nI g), .int xa, .int xb, .int xc]))] ∧ (True))) 0 0 (va_A [(la, .inr (1, [.int (nI g), .int ign, .int part, .int heat]))] sz) := by
  refine enterW (by decide) (Nat.le_of_ble_eq_true rfl) ?_
  intro p e s m args below meth c ls A hx hb hr hml hown hts hlk hin hsz hAe hP hD hA hE hV hS hl
  have hl : lv_has ls 4 [(0, .ref la), (1, .int xa), (2, .int xb), (3, .int xc)] := hl
  refine lv_aload_n hx hb d_Laws_ignite_0 rfl (lv_at hl 0 rfl) ?_
  refine lv_iload_n hx hb d_Laws_ignite_1 rfl (lv_at hl 1 rfl) ?_
  refine q_put (ty := .int) 0 1 (ws1 := [(la, .inr (1, [.int (nI g), .int xa, .int part, .int heat]))]) t_Laws i_Laws t_Laws_ok n_Laws rfl hx hb hts hown hE hP hD hS rfl (by decide) x_47 rfl (by decide +kernel) (rfl) rfl (Nat.le_of_ble_eq_true rfl) rfl d_Laws_ignite_2 (fun H locs hP hD hS => ?_)
  refine lv_aload_n hx hb d_Laws_ignite_5 rfl (lv_at hl 0 rfl) ?_
  refine lv_iload_n hx hb d_Laws_ignite_6 rfl (lv_at hl 2 rfl) ?_
  refine q_put (ty := .int) 0 2 (ws1 := [(la, .inr (1, [.int (nI g), .int xa, .int xb, .int heat]))]) t_Laws i_Laws t_Laws_ok n_Laws rfl hx hb hts hown hE hP hD hS rfl (by decide) x_48 rfl (by decide +kernel) (rfl) rfl (Nat.le_of_ble_eq_true rfl) rfl d_Laws_ignite_7 (fun H locs hP hD hS => ?_)
  refine lv_aload_n hx hb d_Laws_ignite_10 rfl (lv_at hl 0 rfl) ?_
  refine lv_iload_n hx hb d_Laws_ignite_11 rfl (lv_at hl 3 rfl) ?_
  refine q_put (ty := .int) 0 3 (ws1 := [(la, .inr (1, [.int (nI g), .int xa, .int xb, .int xc]))]) t_Laws i_Laws t_Laws_ok n_Laws rfl hx hb hts hown hE hP hD hS rfl (by decide) x_49 rfl (by decide +kernel) (rfl) rfl (Nat.le_of_ble_eq_true rfl) rfl d_Laws_ignite_12 (fun H locs hP hD hS => ?_)
  exact rW_v hx hb hr hlk hAe hS hP hD (Nat.le_of_ble_eq_true rfl) (Nat.le_of_ble_eq_true rfl) d_Laws_ignite_15 ⟨rfl, rfl, trivial⟩
set_option maxHeartbeats 4000000 in
set_option maxRecDepth 100000 in
theorem c_Laws_copyFrom (l : Launch) (D : va_G) (ct : Nat → ClassId) (st : Nat → Nat) (la : Nat) (g : Nat) (ign : Int32) (part : Int32) (heat : Int32) (lb : Nat) (gB : Nat) (ignB : Int32) (partB : Int32) (heatB : Int32) (sz : Nat) : Met l y_Laws_copyFrom (wsy y_Laws_copyFrom b_Laws_copyFrom 2 (none)) (rmW 1 0 0 23) (PcW D ct st [.ref la, .ref lb] [(la, .inr (1, [.int (nI g), .int ign, .int part, .int heat])), (lb, .inr (1, [.int (nI gB), .int ignB, .int partB, .int heatB]))] sz) (QcW D [(la, .inr (1, [.int (nI g), .int ign, .int part, .int heat])), (lb, .inr (1, [.int (nI gB), .int ignB, .int partB, .int heatB]))] sz (fun v W1 => v = none ∧ W1 = [(la, .inr (1, [.int (nI gB), .int ignB, .int partB, .int heatB])), (lb, .inr (1, [.int (nI gB), .int ignB, .int partB, .int heatB]))] ∧ (True))) 0 0 (va_A [(la, .inr (1, [.int (nI g), .int ign, .int part, .int heat])), (lb, .inr (1, [.int (nI gB), .int ignB, .int partB, .int heatB]))] sz) := by
  refine enterW (by decide) (Nat.le_of_ble_eq_true rfl) ?_
  intro p e s m args below meth c ls A hx hb hr hml hown hts hlk hin hsz hAe hP hD hA hE hV hS hl
  have hl : lv_has ls 2 [(0, .ref la), (1, .ref lb)] := hl
  refine lv_aload_n hx hb d_Laws_copyFrom_0 rfl (lv_at hl 0 rfl) ?_
  refine lv_aload_n hx hb d_Laws_copyFrom_1 rfl (lv_at hl 1 rfl) ?_
  refine q_get 1 0 i_Laws rfl hx hb hts hown hE hP rfl (by decide) x_44 rfl d_Laws_copyFrom_2 ?_
  refine q_put (ty := .int) 0 0 (ws1 := [(la, .inr (1, [.int (nI gB), .int ign, .int part, .int heat])), (lb, .inr (1, [.int (nI gB), .int ignB, .int partB, .int heatB]))]) t_Laws i_Laws t_Laws_ok n_Laws rfl hx hb hts hown hE hP hD hS rfl (by decide) x_44 rfl (by decide +kernel) (rfl) rfl (Nat.le_of_ble_eq_true rfl) rfl d_Laws_copyFrom_5 (fun H locs hP hD hS => ?_)
  refine lv_aload_n hx hb d_Laws_copyFrom_8 rfl (lv_at hl 0 rfl) ?_
  refine lv_aload_n hx hb d_Laws_copyFrom_9 rfl (lv_at hl 1 rfl) ?_
  refine q_get 1 1 i_Laws rfl hx hb hts hown hE hP rfl (by decide) x_47 rfl d_Laws_copyFrom_10 ?_
  refine lv_aload_n hx hb d_Laws_copyFrom_13 rfl (lv_at hl 1 rfl) ?_
  refine q_get 1 2 i_Laws rfl hx hb hts hown hE hP rfl (by decide) x_48 rfl d_Laws_copyFrom_14 ?_
  refine lv_aload_n hx hb d_Laws_copyFrom_17 rfl (lv_at hl 1 rfl) ?_
  refine q_get 1 3 i_Laws rfl hx hb hts hown hE hP rfl (by decide) x_49 rfl d_Laws_copyFrom_18 ?_
  refine cWV (As := [.int ignB, .int partB, .int heatB]) (rest := []) (q9 := 0) (ci := 1) K_Laws_ignite x_368 hx hb hml hown hts hE hV hS (c_Laws_ignite l D ct st la gB ign part heat ignB partB heatB _) hP hD hA [0] [1] (wr := [(lb, .inr (1, [.int (nI gB), .int ignB, .int partB, .int heatB]))]) rfl rfl (by decide) (by decide) (by decide) rfl hP rfl rfl hl.1 rfl (Nat.le_of_ble_eq_true rfl) d_Laws_copyFrom_21 (Nat.le_of_ble_eq_true rfl) (Nat.le_of_ble_eq_true rfl) ⟨Nat.le_of_ble_eq_true rfl, Nat.le_of_ble_eq_true rfl⟩ (fun v W1 H locs hpost hP hD hS => ?_)
  obtain ⟨rfl, rfl, hq_21⟩ := hpost
  have hP : va_P D classes [(lb, .inr (1, [.int (nI gB), .int ignB, .int partB, .int heatB])), (la, .inr (1, [.int (nI gB), .int ignB, .int partB, .int heatB]))] H := hP
  have hD : va_D A [(lb, .inr (1, [.int (nI gB), .int ignB, .int partB, .int heatB])), (la, .inr (1, [.int (nI gB), .int ignB, .int partB, .int heatB]))] := hD
  exact rW_v hx hb hr hlk hAe hS (hP.sub (ws' := [(la, .inr (1, [.int (nI gB), .int ignB, .int partB, .int heatB])), (lb, .inr (1, [.int (nI gB), .int ignB, .int partB, .int heatB]))]) [1, 0] rfl) (hD.sub (ws' := [(la, .inr (1, [.int (nI gB), .int ignB, .int partB, .int heatB])), (lb, .inr (1, [.int (nI gB), .int ignB, .int partB, .int heatB]))]) [1, 0] (by decide) rfl) (Nat.le_of_ble_eq_true rfl) (Nat.le_of_ble_eq_true rfl) d_Laws_copyFrom_24 ⟨rfl, rfl, trivial⟩
set_option maxHeartbeats 4000000 in
set_option maxRecDepth 100000 in
theorem c_Laws_init (l : Launch) (D : va_G) (ct : Nat → ClassId) (st : Nat → Nat) (la : Nat) (sz : Nat) : Met l y_Laws_init (wsy y_Laws_init b_Laws_init 1 (none)) (rmW 1 0 0 24) (PcW D ct st [.ref la] [(la, .inr (1, [.int 0, .int 0, .int 0, .int 0]))] sz) (QcW D [(la, .inr (1, [.int 0, .int 0, .int 0, .int 0]))] sz (fun v W1 => v = none ∧ W1 = [(la, .inr (1, [.int 0, .int 100000, .int 0, .int 0]))] ∧ (True))) 0 0 (va_A [(la, .inr (1, [.int 0, .int 0, .int 0, .int 0]))] sz) := by
  refine enterW (by decide) (Nat.le_of_ble_eq_true rfl) ?_
  intro p e s m args below meth c ls A hx hb hr hml hown hts hlk hin hsz hAe hP hD hA hE hV hS hl
  have hl : lv_has ls 1 [(0, .ref la)] := hl
  refine lv_aload_n hx hb d_Laws_init_0 rfl (lv_at hl 0 rfl) ?_
  refine q_oinit hx hb hml hown hts hl x_42 d_Laws_init_1 (Nat.le_of_ble_eq_true rfl) (Nat.le_of_ble_eq_true rfl) ?_
  refine lv_aload_n hx hb d_Laws_init_4 rfl (lv_at hl 0 rfl) ?_
  refine lv_iconst (v := 0) hx hb d_Laws_init_5 (by decide) ?_
  refine q_put (ty := .int) 0 0 (ws1 := [(la, .inr (1, [.int 0, .int 0, .int 0, .int 0]))]) t_Laws i_Laws t_Laws_ok n_Laws rfl hx hb hts hown hE hP hD hS rfl (by decide) x_44 rfl (by decide +kernel) (rfl) rfl (Nat.le_of_ble_eq_true rfl) rfl d_Laws_init_6 (fun H locs hP hD hS => ?_)
  refine lv_aload_n hx hb d_Laws_init_9 rfl (lv_at hl 0 rfl) ?_
  refine lv_ldc (v := 100000) hx hb hown (hts _ (List.mem_cons_of_mem _ x_43)) d_Laws_init_10 ?_
  refine q_put (ty := .int) 0 1 (ws1 := [(la, .inr (1, [.int 0, .int 100000, .int 0, .int 0]))]) t_Laws i_Laws t_Laws_ok n_Laws rfl hx hb hts hown hE hP hD hS rfl (by decide) x_47 rfl (by decide +kernel) (rfl) rfl (Nat.le_of_ble_eq_true rfl) rfl d_Laws_init_12 (fun H locs hP hD hS => ?_)
  exact rW_v hx hb hr hlk hAe hS hP hD (Nat.le_of_ble_eq_true rfl) (Nat.le_of_ble_eq_true rfl) d_Laws_init_15 ⟨rfl, rfl, trivial⟩
set_option maxHeartbeats 4000000 in
set_option maxRecDepth 100000 in
theorem c_Tube_clear (l : Launch) (D : va_G) (ct : Nat → ClassId) (st : Nat → Nat) (ta : Nat → Nat) (g : Nat) (ign : Int32) (part : Int32) (heat : Int32) (n : Nat) (lft : Nat) (rgt : Nat) (ns : Nat) (mM : Nat → Int64) (mP : Nat → Int64) (mE : Nat → Int64) (mF : Nat → Int64) (td : Nat → Int64) (cm : Nat → Int64) (gr : Nat → Int64) (gs : Nat → Int32) (k : Nat) (hk : k < 32) (sz : Nat) : Met l y_Tube_clear (wsy y_Tube_clear b_Tube_clear 3 (none)) (rmW 0 0 0 0) (PcW D ct st [.ref (ta 0), .int (nI k)] [((ta 0), .inr (7, [.ref (ta 1), .int (nI n), .int (nI lft), .int (nI rgt), .int (nI ns), .ref (ta 2), .ref (ta 7), .ref (ta 8), .ref (ta 9), .ref (ta 10)])), ((ta 1), .inr (1, [.int (nI g), .int ign, .int part, .int heat])), ((ta 2), .inl (ct 4, 4, .inr (.inr (.inr (.inr (rw4 (ta 3) (ta 4) (ta 5) (ta 6))))))), ((ta 3), .inl (ct 1, 32, .inr (.inl mM))), ((ta 4), .inl (ct 1, 32, .inr (.inl mP))), ((ta 5), .inl (ct 1, 32, .inr (.inl mE))), ((ta 6), .inl (ct 1, 32, .inr (.inl mF))), ((ta 7), .inl (ct 1, 4, .inr (.inl td))), ((ta 8), .inl (ct 1, 6, .inr (.inl cm))), ((ta 9), .inl (ct 1, 32, .inr (.inl gr))), ((ta 10), .inl (ct 0, 32, .inl gs))] sz) (QcW D [((ta 0), .inr (7, [.ref (ta 1), .int (nI n), .int (nI lft), .int (nI rgt), .int (nI ns), .ref (ta 2), .ref (ta 7), .ref (ta 8), .ref (ta 9), .ref (ta 10)])), ((ta 1), .inr (1, [.int (nI g), .int ign, .int part, .int heat])), ((ta 2), .inl (ct 4, 4, .inr (.inr (.inr (.inr (rw4 (ta 3) (ta 4) (ta 5) (ta 6))))))), ((ta 3), .inl (ct 1, 32, .inr (.inl mM))), ((ta 4), .inl (ct 1, 32, .inr (.inl mP))), ((ta 5), .inl (ct 1, 32, .inr (.inl mE))), ((ta 6), .inl (ct 1, 32, .inr (.inl mF))), ((ta 7), .inl (ct 1, 4, .inr (.inl td))), ((ta 8), .inl (ct 1, 6, .inr (.inl cm))), ((ta 9), .inl (ct 1, 32, .inr (.inl gr))), ((ta 10), .inl (ct 0, 32, .inl gs))] sz (fun v W1 => ∃ (mM1 : Nat → Int64) (mP1 : Nat → Int64) (mE1 : Nat → Int64) (mF1 : Nat → Int64) (gr1 : Nat → Int64) (gs1 : Nat → Int32), v = none ∧ W1 = [((ta 0), .inr (7, [.ref (ta 1), .int (nI n), .int (nI lft), .int (nI rgt), .int (nI ns), .ref (ta 2), .ref (ta 7), .ref (ta 8), .ref (ta 9), .ref (ta 10)])), ((ta 1), .inr (1, [.int (nI g), .int ign, .int part, .int heat])), ((ta 2), .inl (ct 4, 4, .inr (.inr (.inr (.inr (rw4 (ta 3) (ta 4) (ta 5) (ta 6))))))), ((ta 3), .inl (ct 1, 32, .inr (.inl mM1))), ((ta 4), .inl (ct 1, 32, .inr (.inl mP1))), ((ta 5), .inl (ct 1, 32, .inr (.inl mE1))), ((ta 6), .inl (ct 1, 32, .inr (.inl mF1))), ((ta 7), .inl (ct 1, 4, .inr (.inl td))), ((ta 8), .inl (ct 1, 6, .inr (.inl cm))), ((ta 9), .inl (ct 1, 32, .inr (.inl gr1))), ((ta 10), .inl (ct 0, 32, .inl gs1))] ∧ (mM1 = vp_updL mM k 0 ∧ mP1 = vp_updL mP k 0 ∧ mE1 = vp_updL mE k 0 ∧ mF1 = vp_updL mF k 0 ∧ gr1 = vp_updL gr k 0 ∧ gs1 = upd gs k 0))) 0 0 (va_A [((ta 0), .inr (7, [.ref (ta 1), .int (nI n), .int (nI lft), .int (nI rgt), .int (nI ns), .ref (ta 2), .ref (ta 7), .ref (ta 8), .ref (ta 9), .ref (ta 10)])), ((ta 1), .inr (1, [.int (nI g), .int ign, .int part, .int heat])), ((ta 2), .inl (ct 4, 4, .inr (.inr (.inr (.inr (rw4 (ta 3) (ta 4) (ta 5) (ta 6))))))), ((ta 3), .inl (ct 1, 32, .inr (.inl mM))), ((ta 4), .inl (ct 1, 32, .inr (.inl mP))), ((ta 5), .inl (ct 1, 32, .inr (.inl mE))), ((ta 6), .inl (ct 1, 32, .inr (.inl mF))), ((ta 7), .inl (ct 1, 4, .inr (.inl td))), ((ta 8), .inl (ct 1, 6, .inr (.inl cm))), ((ta 9), .inl (ct 1, 32, .inr (.inl gr))), ((ta 10), .inl (ct 0, 32, .inl gs))] sz) := by
  refine enterW (by decide) (Nat.le_of_ble_eq_true rfl) ?_
  intro p e s m args below meth c ls A hx hb hr hml hown hts hlk hin hsz hAe hP hD hA hE hV hS hl
  have hl : lv_has ls 3 [(0, .ref (ta 0)), (1, .int (nI k))] := hl
  refine lv_iconst (v := 0) hx hb d_Tube_clear_0 (by decide) ?_
  refine lv_istore_n (lv' := [(2, .int 0), (0, .ref (ta 0)), (1, .int (nI k))]) hx hb d_Tube_clear_1 rfl hl (by decide) rfl (fun ls hl => ?_)
  refine lv_iload_n hx hb d_Tube_clear_2 rfl (lv_at hl 0 rfl) ?_
  refine lv_iconst (v := 4) hx hb d_Tube_clear_3 (by decide) ?_
  refine lv_icmp_ge (tgt := 22) hx hb d_Tube_clear_4 (by decide) (fun h => absurd h (by decide)) (fun _ => ?_)
  refine lv_aload_n hx hb d_Tube_clear_7 rfl (lv_at hl 1 rfl) ?_
  refine q_get 0 5 i_Tube rfl hx hb hts hown hE hP rfl (by decide) x_90 rfl d_Tube_clear_8 ?_
  refine lv_iload_n hx hb d_Tube_clear_11 rfl (lv_at hl 0 rfl) ?_
  refine q_aald (k := 0) (r := (ta 3)) 2 hx hb hE hP rfl rfl (by decide) (by decide) rfl d_Tube_clear_12 ?_
  refine lv_iload_n hx hb d_Tube_clear_13 rfl (lv_at hl 2 rfl) ?_
  refine lv_lconst (v := 0) hx hb d_Tube_clear_14 (by decide) ?_
  obtain ⟨mM_1, emM_1⟩ : ∃ g9 : Nat → Int64, g9 = vp_updL mM k 0 := ⟨_, rfl⟩
  refine q_last (k := k) 3 (ws1 := [((ta 0), .inr (7, [.ref (ta 1), .int (nI n), .int (nI lft), .int (nI rgt), .int (nI ns), .ref (ta 2), .ref (ta 7), .ref (ta 8), .ref (ta 9), .ref (ta 10)])), ((ta 1), .inr (1, [.int (nI g), .int ign, .int part, .int heat])), ((ta 2), .inl (ct 4, 4, .inr (.inr (.inr (.inr (rw4 (ta 3) (ta 4) (ta 5) (ta 6))))))), ((ta 3), .inl (ct 1, 32, .inr (.inl mM_1))), ((ta 4), .inl (ct 1, 32, .inr (.inl mP))), ((ta 5), .inl (ct 1, 32, .inr (.inl mE))), ((ta 6), .inl (ct 1, 32, .inr (.inl mF))), ((ta 7), .inl (ct 1, 4, .inr (.inl td))), ((ta 8), .inl (ct 1, 6, .inr (.inl cm))), ((ta 9), .inl (ct 1, 32, .inr (.inl gr))), ((ta 10), .inl (ct 0, 32, .inl gs))]) emM_1 hx hb hE hP hD hS rfl rfl (by omega) (by decide) rfl d_Tube_clear_15 (fun H locs hP hD hS => ?_)
  refine lv_iinc (v := 1) (lv' := [(2, .int 1), (0, .ref (ta 0)), (1, .int (nI k))]) hx hb d_Tube_clear_16 hl (k := 0) rfl (by decide) (by decide) rfl (fun ls hl => ?_)
  refine lv_goto (tgt := 2) hx hb d_Tube_clear_19 (by decide) ?_
  refine lv_iload_n hx hb d_Tube_clear_2 rfl (lv_at hl 0 rfl) ?_
  refine lv_iconst (v := 4) hx hb d_Tube_clear_3 (by decide) ?_
  refine lv_icmp_ge (tgt := 22) hx hb d_Tube_clear_4 (by decide) (fun h => absurd h (by decide)) (fun _ => ?_)
  refine lv_aload_n hx hb d_Tube_clear_7 rfl (lv_at hl 1 rfl) ?_
  refine q_get 0 5 i_Tube rfl hx hb hts hown hE hP rfl (by decide) x_90 rfl d_Tube_clear_8 ?_
  refine lv_iload_n hx hb d_Tube_clear_11 rfl (lv_at hl 0 rfl) ?_
  refine q_aald (k := 1) (r := (ta 4)) 2 hx hb hE hP rfl rfl (by decide) (by decide) rfl d_Tube_clear_12 ?_
  refine lv_iload_n hx hb d_Tube_clear_13 rfl (lv_at hl 2 rfl) ?_
  refine lv_lconst (v := 0) hx hb d_Tube_clear_14 (by decide) ?_
  obtain ⟨mP_1, emP_1⟩ : ∃ g9 : Nat → Int64, g9 = vp_updL mP k 0 := ⟨_, rfl⟩
  refine q_last (k := k) 4 (ws1 := [((ta 0), .inr (7, [.ref (ta 1), .int (nI n), .int (nI lft), .int (nI rgt), .int (nI ns), .ref (ta 2), .ref (ta 7), .ref (ta 8), .ref (ta 9), .ref (ta 10)])), ((ta 1), .inr (1, [.int (nI g), .int ign, .int part, .int heat])), ((ta 2), .inl (ct 4, 4, .inr (.inr (.inr (.inr (rw4 (ta 3) (ta 4) (ta 5) (ta 6))))))), ((ta 3), .inl (ct 1, 32, .inr (.inl mM_1))), ((ta 4), .inl (ct 1, 32, .inr (.inl mP_1))), ((ta 5), .inl (ct 1, 32, .inr (.inl mE))), ((ta 6), .inl (ct 1, 32, .inr (.inl mF))), ((ta 7), .inl (ct 1, 4, .inr (.inl td))), ((ta 8), .inl (ct 1, 6, .inr (.inl cm))), ((ta 9), .inl (ct 1, 32, .inr (.inl gr))), ((ta 10), .inl (ct 0, 32, .inl gs))]) emP_1 hx hb hE hP hD hS rfl rfl (by omega) (by decide) rfl d_Tube_clear_15 (fun H locs hP hD hS => ?_)
  refine lv_iinc (v := 2) (lv' := [(2, .int 2), (0, .ref (ta 0)), (1, .int (nI k))]) hx hb d_Tube_clear_16 hl (k := 0) rfl (by decide) (by decide) rfl (fun ls hl => ?_)
  refine lv_goto (tgt := 2) hx hb d_Tube_clear_19 (by decide) ?_
  refine lv_iload_n hx hb d_Tube_clear_2 rfl (lv_at hl 0 rfl) ?_
  refine lv_iconst (v := 4) hx hb d_Tube_clear_3 (by decide) ?_
  refine lv_icmp_ge (tgt := 22) hx hb d_Tube_clear_4 (by decide) (fun h => absurd h (by decide)) (fun _ => ?_)
  refine lv_aload_n hx hb d_Tube_clear_7 rfl (lv_at hl 1 rfl) ?_
  refine q_get 0 5 i_Tube rfl hx hb hts hown hE hP rfl (by decide) x_90 rfl d_Tube_clear_8 ?_
  refine lv_iload_n hx hb d_Tube_clear_11 rfl (lv_at hl 0 rfl) ?_
  refine q_aald (k := 2) (r := (ta 5)) 2 hx hb hE hP rfl rfl (by decide) (by decide) rfl d_Tube_clear_12 ?_
  refine lv_iload_n hx hb d_Tube_clear_13 rfl (lv_at hl 2 rfl) ?_
  refine lv_lconst (v := 0) hx hb d_Tube_clear_14 (by decide) ?_
  obtain ⟨mE_1, emE_1⟩ : ∃ g9 : Nat → Int64, g9 = vp_updL mE k 0 := ⟨_, rfl⟩
  refine q_last (k := k) 5 (ws1 := [((ta 0), .inr (7, [.ref (ta 1), .int (nI n), .int (nI lft), .int (nI rgt), .int (nI ns), .ref (ta 2), .ref (ta 7), .ref (ta 8), .ref (ta 9), .ref (ta 10)])), ((ta 1), .inr (1, [.int (nI g), .int ign, .int part, .int heat])), ((ta 2), .inl (ct 4, 4, .inr (.inr (.inr (.inr (rw4 (ta 3) (ta 4) (ta 5) (ta 6))))))), ((ta 3), .inl (ct 1, 32, .inr (.inl mM_1))), ((ta 4), .inl (ct 1, 32, .inr (.inl mP_1))), ((ta 5), .inl (ct 1, 32, .inr (.inl mE_1))), ((ta 6), .inl (ct 1, 32, .inr (.inl mF))), ((ta 7), .inl (ct 1, 4, .inr (.inl td))), ((ta 8), .inl (ct 1, 6, .inr (.inl cm))), ((ta 9), .inl (ct 1, 32, .inr (.inl gr))), ((ta 10), .inl (ct 0, 32, .inl gs))]) emE_1 hx hb hE hP hD hS rfl rfl (by omega) (by decide) rfl d_Tube_clear_15 (fun H locs hP hD hS => ?_)
  refine lv_iinc (v := 3) (lv' := [(2, .int 3), (0, .ref (ta 0)), (1, .int (nI k))]) hx hb d_Tube_clear_16 hl (k := 0) rfl (by decide) (by decide) rfl (fun ls hl => ?_)
  refine lv_goto (tgt := 2) hx hb d_Tube_clear_19 (by decide) ?_
  refine lv_iload_n hx hb d_Tube_clear_2 rfl (lv_at hl 0 rfl) ?_
  refine lv_iconst (v := 4) hx hb d_Tube_clear_3 (by decide) ?_
  refine lv_icmp_ge (tgt := 22) hx hb d_Tube_clear_4 (by decide) (fun h => absurd h (by decide)) (fun _ => ?_)
  refine lv_aload_n hx hb d_Tube_clear_7 rfl (lv_at hl 1 rfl) ?_
  refine q_get 0 5 i_Tube rfl hx hb hts hown hE hP rfl (by decide) x_90 rfl d_Tube_clear_8 ?_
  refine lv_iload_n hx hb d_Tube_clear_11 rfl (lv_at hl 0 rfl) ?_
  refine q_aald (k := 3) (r := (ta 6)) 2 hx hb hE hP rfl rfl (by decide) (by decide) rfl d_Tube_clear_12 ?_
  refine lv_iload_n hx hb d_Tube_clear_13 rfl (lv_at hl 2 rfl) ?_
  refine lv_lconst (v := 0) hx hb d_Tube_clear_14 (by decide) ?_
  obtain ⟨mF_1, emF_1⟩ : ∃ g9 : Nat → Int64, g9 = vp_updL mF k 0 := ⟨_, rfl⟩
  refine q_last (k := k) 6 (ws1 := [((ta 0), .inr (7, [.ref (ta 1), .int (nI n), .int (nI lft), .int (nI rgt), .int (nI ns), .ref (ta 2), .ref (ta 7), .ref (ta 8), .ref (ta 9), .ref (ta 10)])), ((ta 1), .inr (1, [.int (nI g), .int ign, .int part, .int heat])), ((ta 2), .inl (ct 4, 4, .inr (.inr (.inr (.inr (rw4 (ta 3) (ta 4) (ta 5) (ta 6))))))), ((ta 3), .inl (ct 1, 32, .inr (.inl mM_1))), ((ta 4), .inl (ct 1, 32, .inr (.inl mP_1))), ((ta 5), .inl (ct 1, 32, .inr (.inl mE_1))), ((ta 6), .inl (ct 1, 32, .inr (.inl mF_1))), ((ta 7), .inl (ct 1, 4, .inr (.inl td))), ((ta 8), .inl (ct 1, 6, .inr (.inl cm))), ((ta 9), .inl (ct 1, 32, .inr (.inl gr))), ((ta 10), .inl (ct 0, 32, .inl gs))]) emF_1 hx hb hE hP hD hS rfl rfl (by omega) (by decide) rfl d_Tube_clear_15 (fun H locs hP hD hS => ?_)
  refine lv_iinc (v := 4) (lv' := [(2, .int 4), (0, .ref (ta 0)), (1, .int (nI k))]) hx hb d_Tube_clear_16 hl (k := 0) rfl (by decide) (by decide) rfl (fun ls hl => ?_)
  refine lv_goto (tgt := 2) hx hb d_Tube_clear_19 (by decide) ?_
  refine lv_iload_n hx hb d_Tube_clear_2 rfl (lv_at hl 0 rfl) ?_
  refine lv_iconst (v := 4) hx hb d_Tube_clear_3 (by decide) ?_
  refine lv_icmp_ge (tgt := 22) hx hb d_Tube_clear_4 (by decide) (fun _ => ?_) (fun h => absurd h (by decide))
  refine lv_aload_n hx hb d_Tube_clear_22 rfl (lv_at hl 1 rfl) ?_
  refine q_get 0 8 i_Tube rfl hx hb hts hown hE hP rfl (by decide) x_96 rfl d_Tube_clear_23 ?_
  refine lv_iload_n hx hb d_Tube_clear_26 rfl (lv_at hl 2 rfl) ?_
  refine lv_lconst (v := 0) hx hb d_Tube_clear_27 (by decide) ?_
  obtain ⟨gr_1, egr_1⟩ : ∃ g9 : Nat → Int64, g9 = vp_updL gr k 0 := ⟨_, rfl⟩
  refine q_last (k := k) 9 (ws1 := [((ta 0), .inr (7, [.ref (ta 1), .int (nI n), .int (nI lft), .int (nI rgt), .int (nI ns), .ref (ta 2), .ref (ta 7), .ref (ta 8), .ref (ta 9), .ref (ta 10)])), ((ta 1), .inr (1, [.int (nI g), .int ign, .int part, .int heat])), ((ta 2), .inl (ct 4, 4, .inr (.inr (.inr (.inr (rw4 (ta 3) (ta 4) (ta 5) (ta 6))))))), ((ta 3), .inl (ct 1, 32, .inr (.inl mM_1))), ((ta 4), .inl (ct 1, 32, .inr (.inl mP_1))), ((ta 5), .inl (ct 1, 32, .inr (.inl mE_1))), ((ta 6), .inl (ct 1, 32, .inr (.inl mF_1))), ((ta 7), .inl (ct 1, 4, .inr (.inl td))), ((ta 8), .inl (ct 1, 6, .inr (.inl cm))), ((ta 9), .inl (ct 1, 32, .inr (.inl gr_1))), ((ta 10), .inl (ct 0, 32, .inl gs))]) egr_1 hx hb hE hP hD hS rfl rfl (by omega) (by decide) rfl d_Tube_clear_28 (fun H locs hP hD hS => ?_)
  refine lv_aload_n hx hb d_Tube_clear_29 rfl (lv_at hl 1 rfl) ?_
  refine q_get 0 9 i_Tube rfl hx hb hts hown hE hP rfl (by decide) x_97 rfl d_Tube_clear_30 ?_
  refine lv_iload_n hx hb d_Tube_clear_33 rfl (lv_at hl 2 rfl) ?_
  refine lv_iconst (v := 0) hx hb d_Tube_clear_34 (by decide) ?_
  obtain ⟨gs_1, egs_1⟩ : ∃ g9 : Nat → Int32, g9 = upd gs k 0 := ⟨_, rfl⟩
  refine q_iast (k := k) 10 (ws1 := [((ta 0), .inr (7, [.ref (ta 1), .int (nI n), .int (nI lft), .int (nI rgt), .int (nI ns), .ref (ta 2), .ref (ta 7), .ref (ta 8), .ref (ta 9), .ref (ta 10)])), ((ta 1), .inr (1, [.int (nI g), .int ign, .int part, .int heat])), ((ta 2), .inl (ct 4, 4, .inr (.inr (.inr (.inr (rw4 (ta 3) (ta 4) (ta 5) (ta 6))))))), ((ta 3), .inl (ct 1, 32, .inr (.inl mM_1))), ((ta 4), .inl (ct 1, 32, .inr (.inl mP_1))), ((ta 5), .inl (ct 1, 32, .inr (.inl mE_1))), ((ta 6), .inl (ct 1, 32, .inr (.inl mF_1))), ((ta 7), .inl (ct 1, 4, .inr (.inl td))), ((ta 8), .inl (ct 1, 6, .inr (.inl cm))), ((ta 9), .inl (ct 1, 32, .inr (.inl gr_1))), ((ta 10), .inl (ct 0, 32, .inl gs_1))]) egs_1 hx hb hE hP hD hS rfl rfl (by omega) (by decide) rfl d_Tube_clear_35 (fun H locs hP hD hS => ?_)
  exact rW_v hx hb hr hlk hAe hS hP hD (Nat.le_of_ble_eq_true rfl) (Nat.le_of_ble_eq_true rfl) d_Tube_clear_36 ⟨mM_1, mP_1, mE_1, mF_1, gr_1, gs_1, rfl, rfl, ⟨emM_1, emP_1, emE_1, emF_1, egr_1, egs_1⟩⟩
set_option maxHeartbeats 4000000 in
set_option maxRecDepth 100000 in
theorem c_Tube_tellPart_0 (l : Launch) (D : va_G) (ct : Nat → ClassId) (st : Nat → Nat) (ta : Nat → Nat) (g : Nat) (ign : Int32) (part : Int32) (heat : Int32) (n : Nat) (lft : Nat) (rgt : Nat) (ns : Nat) (mM : Nat → Int64) (mP : Nat → Int64) (mE : Nat → Int64) (mF : Nat → Int64) (td : Nat → Int64) (cm : Nat → Int64) (gr : Nat → Int64) (gs : Nat → Int32) (k : Nat) (am9 : Int64) (hk : k < 32) (sz : Nat) : Met l y_Tube_tellPart (wsy y_Tube_tellPart b_Tube_tellPart 5 (none)) (rmW 0 0 0 0) (PcW D ct st [.ref (ta 0), .int 0, .int (nI k), .long am9] [((ta 0), .inr (7, [.ref (ta 1), .int (nI n), .int (nI lft), .int (nI rgt), .int (nI ns), .ref (ta 2), .ref (ta 7), .ref (ta 8), .ref (ta 9), .ref (ta 10)])), ((ta 1), .inr (1, [.int (nI g), .int ign, .int part, .int heat])), ((ta 2), .inl (ct 4, 4, .inr (.inr (.inr (.inr (rw4 (ta 3) (ta 4) (ta 5) (ta 6))))))), ((ta 3), .inl (ct 1, 32, .inr (.inl mM))), ((ta 4), .inl (ct 1, 32, .inr (.inl mP))), ((ta 5), .inl (ct 1, 32, .inr (.inl mE))), ((ta 6), .inl (ct 1, 32, .inr (.inl mF))), ((ta 7), .inl (ct 1, 4, .inr (.inl td))), ((ta 8), .inl (ct 1, 6, .inr (.inl cm))), ((ta 9), .inl (ct 1, 32, .inr (.inl gr))), ((ta 10), .inl (ct 0, 32, .inl gs))] sz) (QcW D [((ta 0), .inr (7, [.ref (ta 1), .int (nI n), .int (nI lft), .int (nI rgt), .int (nI ns), .ref (ta 2), .ref (ta 7), .ref (ta 8), .ref (ta 9), .ref (ta 10)])), ((ta 1), .inr (1, [.int (nI g), .int ign, .int part, .int heat])), ((ta 2), .inl (ct 4, 4, .inr (.inr (.inr (.inr (rw4 (ta 3) (ta 4) (ta 5) (ta 6))))))), ((ta 3), .inl (ct 1, 32, .inr (.inl mM))), ((ta 4), .inl (ct 1, 32, .inr (.inl mP))), ((ta 5), .inl (ct 1, 32, .inr (.inl mE))), ((ta 6), .inl (ct 1, 32, .inr (.inl mF))), ((ta 7), .inl (ct 1, 4, .inr (.inl td))), ((ta 8), .inl (ct 1, 6, .inr (.inl cm))), ((ta 9), .inl (ct 1, 32, .inr (.inl gr))), ((ta 10), .inl (ct 0, 32, .inl gs))] sz (fun v W1 => ∃ (mM1 : Nat → Int64) (td1 : Nat → Int64), v = none ∧ W1 = [((ta 0), .inr (7, [.ref (ta 1), .int (nI n), .int (nI lft), .int (nI rgt), .int (nI ns), .ref (ta 2), .ref (ta 7), .ref (ta 8), .ref (ta 9), .ref (ta 10)])), ((ta 1), .inr (1, [.int (nI g), .int ign, .int part, .int heat])), ((ta 2), .inl (ct 4, 4, .inr (.inr (.inr (.inr (rw4 (ta 3) (ta 4) (ta 5) (ta 6))))))), ((ta 3), .inl (ct 1, 32, .inr (.inl mM1))), ((ta 4), .inl (ct 1, 32, .inr (.inl mP))), ((ta 5), .inl (ct 1, 32, .inr (.inl mE))), ((ta 6), .inl (ct 1, 32, .inr (.inl mF))), ((ta 7), .inl (ct 1, 4, .inr (.inl td1))), ((ta 8), .inl (ct 1, 6, .inr (.inl cm))), ((ta 9), .inl (ct 1, 32, .inr (.inl gr))), ((ta 10), .inl (ct 0, 32, .inl gs))] ∧ (mM1 = vp_updL mM k am9 ∧ td1 = vp_updL td 0 (td 0 + (am9 - mM k))))) 0 0 (va_A [((ta 0), .inr (7, [.ref (ta 1), .int (nI n), .int (nI lft), .int (nI rgt), .int (nI ns), .ref (ta 2), .ref (ta 7), .ref (ta 8), .ref (ta 9), .ref (ta 10)])), ((ta 1), .inr (1, [.int (nI g), .int ign, .int part, .int heat])), ((ta 2), .inl (ct 4, 4, .inr (.inr (.inr (.inr (rw4 (ta 3) (ta 4) (ta 5) (ta 6))))))), ((ta 3), .inl (ct 1, 32, .inr (.inl mM))), ((ta 4), .inl (ct 1, 32, .inr (.inl mP))), ((ta 5), .inl (ct 1, 32, .inr (.inl mE))), ((ta 6), .inl (ct 1, 32, .inr (.inl mF))), ((ta 7), .inl (ct 1, 4, .inr (.inl td))), ((ta 8), .inl (ct 1, 6, .inr (.inl cm))), ((ta 9), .inl (ct 1, 32, .inr (.inl gr))), ((ta 10), .inl (ct 0, 32, .inl gs))] sz) := by
  refine enterW (by decide) (Nat.le_of_ble_eq_true rfl) ?_
  intro p e s m args below meth c ls A hx hb hr hml hown hts hlk hin hsz hAe hP hD hA hE hV hS hl
  have hl : lv_has ls 5 [(0, .ref (ta 0)), (1, .int 0), (2, .int (nI k)), (3, .long am9)] := hl
  refine lv_aload_n hx hb d_Tube_tellPart_0 rfl (lv_at hl 0 rfl) ?_
  refine q_get 0 6 i_Tube rfl hx hb hts hown hE hP rfl (by decide) x_93 rfl d_Tube_tellPart_1 ?_
  refine lv_iload_n hx hb d_Tube_tellPart_4 rfl (lv_at hl 1 rfl) ?_
  refine lv_dup2_11 hx hb d_Tube_tellPart_5 rfl rfl ?_
  refine q_lald (k := 0) 7 hx hb hE hP rfl rfl (by omega) (by decide) d_Tube_tellPart_6 ?_
  refine lv_lload_n hx hb d_Tube_tellPart_7 rfl (lv_at hl 3 rfl) ?_
  refine lv_aload_n hx hb d_Tube_tellPart_8 rfl (lv_at hl 0 rfl) ?_
  refine q_get 0 5 i_Tube rfl hx hb hts hown hE hP rfl (by decide) x_90 rfl d_Tube_tellPart_9 ?_
  refine lv_iload_n hx hb d_Tube_tellPart_12 rfl (lv_at hl 1 rfl) ?_
  refine q_aald (k := 0) (r := (ta 3)) 2 hx hb hE hP rfl rfl (by decide) (by decide) rfl d_Tube_tellPart_13 ?_
  refine lv_iload_n hx hb d_Tube_tellPart_14 rfl (lv_at hl 2 rfl) ?_
  refine q_lald (k := k) 3 hx hb hE hP rfl rfl (by omega) (by decide) d_Tube_tellPart_15 ?_
  refine lv_lsub hx hb d_Tube_tellPart_16 ?_
  refine lv_ladd hx hb d_Tube_tellPart_17 ?_
  obtain ⟨td_1, etd_1⟩ : ∃ g9 : Nat → Int64, g9 = vp_updL td 0 ((td 0) + (am9 - (mM k))) := ⟨_, rfl⟩
  refine q_last (k := 0) 7 (ws1 := [((ta 0), .inr (7, [.ref (ta 1), .int (nI n), .int (nI lft), .int (nI rgt), .int (nI ns), .ref (ta 2), .ref (ta 7), .ref (ta 8), .ref (ta 9), .ref (ta 10)])), ((ta 1), .inr (1, [.int (nI g), .int ign, .int part, .int heat])), ((ta 2), .inl (ct 4, 4, .inr (.inr (.inr (.inr (rw4 (ta 3) (ta 4) (ta 5) (ta 6))))))), ((ta 3), .inl (ct 1, 32, .inr (.inl mM))), ((ta 4), .inl (ct 1, 32, .inr (.inl mP))), ((ta 5), .inl (ct 1, 32, .inr (.inl mE))), ((ta 6), .inl (ct 1, 32, .inr (.inl mF))), ((ta 7), .inl (ct 1, 4, .inr (.inl td_1))), ((ta 8), .inl (ct 1, 6, .inr (.inl cm))), ((ta 9), .inl (ct 1, 32, .inr (.inl gr))), ((ta 10), .inl (ct 0, 32, .inl gs))]) etd_1 hx hb hE hP hD hS rfl rfl (by omega) (by decide) rfl d_Tube_tellPart_18 (fun H locs hP hD hS => ?_)
  refine lv_aload_n hx hb d_Tube_tellPart_19 rfl (lv_at hl 0 rfl) ?_
  refine q_get 0 5 i_Tube rfl hx hb hts hown hE hP rfl (by decide) x_90 rfl d_Tube_tellPart_20 ?_
  refine lv_iload_n hx hb d_Tube_tellPart_23 rfl (lv_at hl 1 rfl) ?_
  refine q_aald (k := 0) (r := (ta 3)) 2 hx hb hE hP rfl rfl (by decide) (by decide) rfl d_Tube_tellPart_24 ?_
  refine lv_iload_n hx hb d_Tube_tellPart_25 rfl (lv_at hl 2 rfl) ?_
  refine lv_lload_n hx hb d_Tube_tellPart_26 rfl (lv_at hl 3 rfl) ?_
  obtain ⟨mM_1, emM_1⟩ : ∃ g9 : Nat → Int64, g9 = vp_updL mM k am9 := ⟨_, rfl⟩
  refine q_last (k := k) 3 (ws1 := [((ta 0), .inr (7, [.ref (ta 1), .int (nI n), .int (nI lft), .int (nI rgt), .int (nI ns), .ref (ta 2), .ref (ta 7), .ref (ta 8), .ref (ta 9), .ref (ta 10)])), ((ta 1), .inr (1, [.int (nI g), .int ign, .int part, .int heat])), ((ta 2), .inl (ct 4, 4, .inr (.inr (.inr (.inr (rw4 (ta 3) (ta 4) (ta 5) (ta 6))))))), ((ta 3), .inl (ct 1, 32, .inr (.inl mM_1))), ((ta 4), .inl (ct 1, 32, .inr (.inl mP))), ((ta 5), .inl (ct 1, 32, .inr (.inl mE))), ((ta 6), .inl (ct 1, 32, .inr (.inl mF))), ((ta 7), .inl (ct 1, 4, .inr (.inl td_1))), ((ta 8), .inl (ct 1, 6, .inr (.inl cm))), ((ta 9), .inl (ct 1, 32, .inr (.inl gr))), ((ta 10), .inl (ct 0, 32, .inl gs))]) emM_1 hx hb hE hP hD hS rfl rfl (by omega) (by decide) rfl d_Tube_tellPart_27 (fun H locs hP hD hS => ?_)
  exact rW_v hx hb hr hlk hAe hS hP hD (Nat.le_of_ble_eq_true rfl) (Nat.le_of_ble_eq_true rfl) d_Tube_tellPart_28 ⟨mM_1, td_1, rfl, rfl, ⟨emM_1, etd_1⟩⟩
set_option maxHeartbeats 4000000 in
set_option maxRecDepth 100000 in
theorem c_Tube_tellPart_1 (l : Launch) (D : va_G) (ct : Nat → ClassId) (st : Nat → Nat) (ta : Nat → Nat) (g : Nat) (ign : Int32) (part : Int32) (heat : Int32) (n : Nat) (lft : Nat) (rgt : Nat) (ns : Nat) (mM : Nat → Int64) (mP : Nat → Int64) (mE : Nat → Int64) (mF : Nat → Int64) (td : Nat → Int64) (cm : Nat → Int64) (gr : Nat → Int64) (gs : Nat → Int32) (k : Nat) (am9 : Int64) (hk : k < 32) (sz : Nat) : Met l y_Tube_tellPart (wsy y_Tube_tellPart b_Tube_tellPart 5 (none)) (rmW 0 0 0 0) (PcW D ct st [.ref (ta 0), .int 1, .int (nI k), .long am9] [((ta 0), .inr (7, [.ref (ta 1), .int (nI n), .int (nI lft), .int (nI rgt), .int (nI ns), .ref (ta 2), .ref (ta 7), .ref (ta 8), .ref (ta 9), .ref (ta 10)])), ((ta 1), .inr (1, [.int (nI g), .int ign, .int part, .int heat])), ((ta 2), .inl (ct 4, 4, .inr (.inr (.inr (.inr (rw4 (ta 3) (ta 4) (ta 5) (ta 6))))))), ((ta 3), .inl (ct 1, 32, .inr (.inl mM))), ((ta 4), .inl (ct 1, 32, .inr (.inl mP))), ((ta 5), .inl (ct 1, 32, .inr (.inl mE))), ((ta 6), .inl (ct 1, 32, .inr (.inl mF))), ((ta 7), .inl (ct 1, 4, .inr (.inl td))), ((ta 8), .inl (ct 1, 6, .inr (.inl cm))), ((ta 9), .inl (ct 1, 32, .inr (.inl gr))), ((ta 10), .inl (ct 0, 32, .inl gs))] sz) (QcW D [((ta 0), .inr (7, [.ref (ta 1), .int (nI n), .int (nI lft), .int (nI rgt), .int (nI ns), .ref (ta 2), .ref (ta 7), .ref (ta 8), .ref (ta 9), .ref (ta 10)])), ((ta 1), .inr (1, [.int (nI g), .int ign, .int part, .int heat])), ((ta 2), .inl (ct 4, 4, .inr (.inr (.inr (.inr (rw4 (ta 3) (ta 4) (ta 5) (ta 6))))))), ((ta 3), .inl (ct 1, 32, .inr (.inl mM))), ((ta 4), .inl (ct 1, 32, .inr (.inl mP))), ((ta 5), .inl (ct 1, 32, .inr (.inl mE))), ((ta 6), .inl (ct 1, 32, .inr (.inl mF))), ((ta 7), .inl (ct 1, 4, .inr (.inl td))), ((ta 8), .inl (ct 1, 6, .inr (.inl cm))), ((ta 9), .inl (ct 1, 32, .inr (.inl gr))), ((ta 10), .inl (ct 0, 32, .inl gs))] sz (fun v W1 => ∃ (mP1 : Nat → Int64) (td1 : Nat → Int64), v = none ∧ W1 = [((ta 0), .inr (7, [.ref (ta 1), .int (nI n), .int (nI lft), .int (nI rgt), .int (nI ns), .ref (ta 2), .ref (ta 7), .ref (ta 8), .ref (ta 9), .ref (ta 10)])), ((ta 1), .inr (1, [.int (nI g), .int ign, .int part, .int heat])), ((ta 2), .inl (ct 4, 4, .inr (.inr (.inr (.inr (rw4 (ta 3) (ta 4) (ta 5) (ta 6))))))), ((ta 3), .inl (ct 1, 32, .inr (.inl mM))), ((ta 4), .inl (ct 1, 32, .inr (.inl mP1))), ((ta 5), .inl (ct 1, 32, .inr (.inl mE))), ((ta 6), .inl (ct 1, 32, .inr (.inl mF))), ((ta 7), .inl (ct 1, 4, .inr (.inl td1))), ((ta 8), .inl (ct 1, 6, .inr (.inl cm))), ((ta 9), .inl (ct 1, 32, .inr (.inl gr))), ((ta 10), .inl (ct 0, 32, .inl gs))] ∧ (mP1 = vp_updL mP k am9 ∧ td1 = vp_updL td 1 (td 1 + (am9 - mP k))))) 0 0 (va_A [((ta 0), .inr (7, [.ref (ta 1), .int (nI n), .int (nI lft), .int (nI rgt), .int (nI ns), .ref (ta 2), .ref (ta 7), .ref (ta 8), .ref (ta 9), .ref (ta 10)])), ((ta 1), .inr (1, [.int (nI g), .int ign, .int part, .int heat])), ((ta 2), .inl (ct 4, 4, .inr (.inr (.inr (.inr (rw4 (ta 3) (ta 4) (ta 5) (ta 6))))))), ((ta 3), .inl (ct 1, 32, .inr (.inl mM))), ((ta 4), .inl (ct 1, 32, .inr (.inl mP))), ((ta 5), .inl (ct 1, 32, .inr (.inl mE))), ((ta 6), .inl (ct 1, 32, .inr (.inl mF))), ((ta 7), .inl (ct 1, 4, .inr (.inl td))), ((ta 8), .inl (ct 1, 6, .inr (.inl cm))), ((ta 9), .inl (ct 1, 32, .inr (.inl gr))), ((ta 10), .inl (ct 0, 32, .inl gs))] sz) := by
  refine enterW (by decide) (Nat.le_of_ble_eq_true rfl) ?_
  intro p e s m args below meth c ls A hx hb hr hml hown hts hlk hin hsz hAe hP hD hA hE hV hS hl
  have hl : lv_has ls 5 [(0, .ref (ta 0)), (1, .int 1), (2, .int (nI k)), (3, .long am9)] := hl
  refine lv_aload_n hx hb d_Tube_tellPart_0 rfl (lv_at hl 0 rfl) ?_
  refine q_get 0 6 i_Tube rfl hx hb hts hown hE hP rfl (by decide) x_93 rfl d_Tube_tellPart_1 ?_
  refine lv_iload_n hx hb d_Tube_tellPart_4 rfl (lv_at hl 1 rfl) ?_
  refine lv_dup2_11 hx hb d_Tube_tellPart_5 rfl rfl ?_
  refine q_lald (k := 1) 7 hx hb hE hP rfl rfl (by omega) (by decide) d_Tube_tellPart_6 ?_
  refine lv_lload_n hx hb d_Tube_tellPart_7 rfl (lv_at hl 3 rfl) ?_
  refine lv_aload_n hx hb d_Tube_tellPart_8 rfl (lv_at hl 0 rfl) ?_
  refine q_get 0 5 i_Tube rfl hx hb hts hown hE hP rfl (by decide) x_90 rfl d_Tube_tellPart_9 ?_
  refine lv_iload_n hx hb d_Tube_tellPart_12 rfl (lv_at hl 1 rfl) ?_
  refine q_aald (k := 1) (r := (ta 4)) 2 hx hb hE hP rfl rfl (by decide) (by decide) rfl d_Tube_tellPart_13 ?_
  refine lv_iload_n hx hb d_Tube_tellPart_14 rfl (lv_at hl 2 rfl) ?_
  refine q_lald (k := k) 4 hx hb hE hP rfl rfl (by omega) (by decide) d_Tube_tellPart_15 ?_
  refine lv_lsub hx hb d_Tube_tellPart_16 ?_
  refine lv_ladd hx hb d_Tube_tellPart_17 ?_
  obtain ⟨td_1, etd_1⟩ : ∃ g9 : Nat → Int64, g9 = vp_updL td 1 ((td 1) + (am9 - (mP k))) := ⟨_, rfl⟩
  refine q_last (k := 1) 7 (ws1 := [((ta 0), .inr (7, [.ref (ta 1), .int (nI n), .int (nI lft), .int (nI rgt), .int (nI ns), .ref (ta 2), .ref (ta 7), .ref (ta 8), .ref (ta 9), .ref (ta 10)])), ((ta 1), .inr (1, [.int (nI g), .int ign, .int part, .int heat])), ((ta 2), .inl (ct 4, 4, .inr (.inr (.inr (.inr (rw4 (ta 3) (ta 4) (ta 5) (ta 6))))))), ((ta 3), .inl (ct 1, 32, .inr (.inl mM))), ((ta 4), .inl (ct 1, 32, .inr (.inl mP))), ((ta 5), .inl (ct 1, 32, .inr (.inl mE))), ((ta 6), .inl (ct 1, 32, .inr (.inl mF))), ((ta 7), .inl (ct 1, 4, .inr (.inl td_1))), ((ta 8), .inl (ct 1, 6, .inr (.inl cm))), ((ta 9), .inl (ct 1, 32, .inr (.inl gr))), ((ta 10), .inl (ct 0, 32, .inl gs))]) etd_1 hx hb hE hP hD hS rfl rfl (by omega) (by decide) rfl d_Tube_tellPart_18 (fun H locs hP hD hS => ?_)
  refine lv_aload_n hx hb d_Tube_tellPart_19 rfl (lv_at hl 0 rfl) ?_
  refine q_get 0 5 i_Tube rfl hx hb hts hown hE hP rfl (by decide) x_90 rfl d_Tube_tellPart_20 ?_
  refine lv_iload_n hx hb d_Tube_tellPart_23 rfl (lv_at hl 1 rfl) ?_
  refine q_aald (k := 1) (r := (ta 4)) 2 hx hb hE hP rfl rfl (by decide) (by decide) rfl d_Tube_tellPart_24 ?_
  refine lv_iload_n hx hb d_Tube_tellPart_25 rfl (lv_at hl 2 rfl) ?_
  refine lv_lload_n hx hb d_Tube_tellPart_26 rfl (lv_at hl 3 rfl) ?_
  obtain ⟨mP_1, emP_1⟩ : ∃ g9 : Nat → Int64, g9 = vp_updL mP k am9 := ⟨_, rfl⟩
  refine q_last (k := k) 4 (ws1 := [((ta 0), .inr (7, [.ref (ta 1), .int (nI n), .int (nI lft), .int (nI rgt), .int (nI ns), .ref (ta 2), .ref (ta 7), .ref (ta 8), .ref (ta 9), .ref (ta 10)])), ((ta 1), .inr (1, [.int (nI g), .int ign, .int part, .int heat])), ((ta 2), .inl (ct 4, 4, .inr (.inr (.inr (.inr (rw4 (ta 3) (ta 4) (ta 5) (ta 6))))))), ((ta 3), .inl (ct 1, 32, .inr (.inl mM))), ((ta 4), .inl (ct 1, 32, .inr (.inl mP_1))), ((ta 5), .inl (ct 1, 32, .inr (.inl mE))), ((ta 6), .inl (ct 1, 32, .inr (.inl mF))), ((ta 7), .inl (ct 1, 4, .inr (.inl td_1))), ((ta 8), .inl (ct 1, 6, .inr (.inl cm))), ((ta 9), .inl (ct 1, 32, .inr (.inl gr))), ((ta 10), .inl (ct 0, 32, .inl gs))]) emP_1 hx hb hE hP hD hS rfl rfl (by omega) (by decide) rfl d_Tube_tellPart_27 (fun H locs hP hD hS => ?_)
  exact rW_v hx hb hr hlk hAe hS hP hD (Nat.le_of_ble_eq_true rfl) (Nat.le_of_ble_eq_true rfl) d_Tube_tellPart_28 ⟨mP_1, td_1, rfl, rfl, ⟨emP_1, etd_1⟩⟩
set_option maxHeartbeats 4000000 in
set_option maxRecDepth 100000 in
theorem c_Tube_tellPart_2 (l : Launch) (D : va_G) (ct : Nat → ClassId) (st : Nat → Nat) (ta : Nat → Nat) (g : Nat) (ign : Int32) (part : Int32) (heat : Int32) (n : Nat) (lft : Nat) (rgt : Nat) (ns : Nat) (mM : Nat → Int64) (mP : Nat → Int64) (mE : Nat → Int64) (mF : Nat → Int64) (td : Nat → Int64) (cm : Nat → Int64) (gr : Nat → Int64) (gs : Nat → Int32) (k : Nat) (am9 : Int64) (hk : k < 32) (sz : Nat) : Met l y_Tube_tellPart (wsy y_Tube_tellPart b_Tube_tellPart 5 (none)) (rmW 0 0 0 0) (PcW D ct st [.ref (ta 0), .int 2, .int (nI k), .long am9] [((ta 0), .inr (7, [.ref (ta 1), .int (nI n), .int (nI lft), .int (nI rgt), .int (nI ns), .ref (ta 2), .ref (ta 7), .ref (ta 8), .ref (ta 9), .ref (ta 10)])), ((ta 1), .inr (1, [.int (nI g), .int ign, .int part, .int heat])), ((ta 2), .inl (ct 4, 4, .inr (.inr (.inr (.inr (rw4 (ta 3) (ta 4) (ta 5) (ta 6))))))), ((ta 3), .inl (ct 1, 32, .inr (.inl mM))), ((ta 4), .inl (ct 1, 32, .inr (.inl mP))), ((ta 5), .inl (ct 1, 32, .inr (.inl mE))), ((ta 6), .inl (ct 1, 32, .inr (.inl mF))), ((ta 7), .inl (ct 1, 4, .inr (.inl td))), ((ta 8), .inl (ct 1, 6, .inr (.inl cm))), ((ta 9), .inl (ct 1, 32, .inr (.inl gr))), ((ta 10), .inl (ct 0, 32, .inl gs))] sz) (QcW D [((ta 0), .inr (7, [.ref (ta 1), .int (nI n), .int (nI lft), .int (nI rgt), .int (nI ns), .ref (ta 2), .ref (ta 7), .ref (ta 8), .ref (ta 9), .ref (ta 10)])), ((ta 1), .inr (1, [.int (nI g), .int ign, .int part, .int heat])), ((ta 2), .inl (ct 4, 4, .inr (.inr (.inr (.inr (rw4 (ta 3) (ta 4) (ta 5) (ta 6))))))), ((ta 3), .inl (ct 1, 32, .inr (.inl mM))), ((ta 4), .inl (ct 1, 32, .inr (.inl mP))), ((ta 5), .inl (ct 1, 32, .inr (.inl mE))), ((ta 6), .inl (ct 1, 32, .inr (.inl mF))), ((ta 7), .inl (ct 1, 4, .inr (.inl td))), ((ta 8), .inl (ct 1, 6, .inr (.inl cm))), ((ta 9), .inl (ct 1, 32, .inr (.inl gr))), ((ta 10), .inl (ct 0, 32, .inl gs))] sz (fun v W1 => ∃ (mE1 : Nat → Int64) (td1 : Nat → Int64), v = none ∧ W1 = [((ta 0), .inr (7, [.ref (ta 1), .int (nI n), .int (nI lft), .int (nI rgt), .int (nI ns), .ref (ta 2), .ref (ta 7), .ref (ta 8), .ref (ta 9), .ref (ta 10)])), ((ta 1), .inr (1, [.int (nI g), .int ign, .int part, .int heat])), ((ta 2), .inl (ct 4, 4, .inr (.inr (.inr (.inr (rw4 (ta 3) (ta 4) (ta 5) (ta 6))))))), ((ta 3), .inl (ct 1, 32, .inr (.inl mM))), ((ta 4), .inl (ct 1, 32, .inr (.inl mP))), ((ta 5), .inl (ct 1, 32, .inr (.inl mE1))), ((ta 6), .inl (ct 1, 32, .inr (.inl mF))), ((ta 7), .inl (ct 1, 4, .inr (.inl td1))), ((ta 8), .inl (ct 1, 6, .inr (.inl cm))), ((ta 9), .inl (ct 1, 32, .inr (.inl gr))), ((ta 10), .inl (ct 0, 32, .inl gs))] ∧ (mE1 = vp_updL mE k am9 ∧ td1 = vp_updL td 2 (td 2 + (am9 - mE k))))) 0 0 (va_A [((ta 0), .inr (7, [.ref (ta 1), .int (nI n), .int (nI lft), .int (nI rgt), .int (nI ns), .ref (ta 2), .ref (ta 7), .ref (ta 8), .ref (ta 9), .ref (ta 10)])), ((ta 1), .inr (1, [.int (nI g), .int ign, .int part, .int heat])), ((ta 2), .inl (ct 4, 4, .inr (.inr (.inr (.inr (rw4 (ta 3) (ta 4) (ta 5) (ta 6))))))), ((ta 3), .inl (ct 1, 32, .inr (.inl mM))), ((ta 4), .inl (ct 1, 32, .inr (.inl mP))), ((ta 5), .inl (ct 1, 32, .inr (.inl mE))), ((ta 6), .inl (ct 1, 32, .inr (.inl mF))), ((ta 7), .inl (ct 1, 4, .inr (.inl td))), ((ta 8), .inl (ct 1, 6, .inr (.inl cm))), ((ta 9), .inl (ct 1, 32, .inr (.inl gr))), ((ta 10), .inl (ct 0, 32, .inl gs))] sz) := by
  refine enterW (by decide) (Nat.le_of_ble_eq_true rfl) ?_
  intro p e s m args below meth c ls A hx hb hr hml hown hts hlk hin hsz hAe hP hD hA hE hV hS hl
  have hl : lv_has ls 5 [(0, .ref (ta 0)), (1, .int 2), (2, .int (nI k)), (3, .long am9)] := hl
  refine lv_aload_n hx hb d_Tube_tellPart_0 rfl (lv_at hl 0 rfl) ?_
  refine q_get 0 6 i_Tube rfl hx hb hts hown hE hP rfl (by decide) x_93 rfl d_Tube_tellPart_1 ?_
  refine lv_iload_n hx hb d_Tube_tellPart_4 rfl (lv_at hl 1 rfl) ?_
  refine lv_dup2_11 hx hb d_Tube_tellPart_5 rfl rfl ?_
  refine q_lald (k := 2) 7 hx hb hE hP rfl rfl (by omega) (by decide) d_Tube_tellPart_6 ?_
  refine lv_lload_n hx hb d_Tube_tellPart_7 rfl (lv_at hl 3 rfl) ?_
  refine lv_aload_n hx hb d_Tube_tellPart_8 rfl (lv_at hl 0 rfl) ?_
  refine q_get 0 5 i_Tube rfl hx hb hts hown hE hP rfl (by decide) x_90 rfl d_Tube_tellPart_9 ?_
  refine lv_iload_n hx hb d_Tube_tellPart_12 rfl (lv_at hl 1 rfl) ?_
  refine q_aald (k := 2) (r := (ta 5)) 2 hx hb hE hP rfl rfl (by decide) (by decide) rfl d_Tube_tellPart_13 ?_
  refine lv_iload_n hx hb d_Tube_tellPart_14 rfl (lv_at hl 2 rfl) ?_
  refine q_lald (k := k) 5 hx hb hE hP rfl rfl (by omega) (by decide) d_Tube_tellPart_15 ?_
  refine lv_lsub hx hb d_Tube_tellPart_16 ?_
  refine lv_ladd hx hb d_Tube_tellPart_17 ?_
  obtain ⟨td_1, etd_1⟩ : ∃ g9 : Nat → Int64, g9 = vp_updL td 2 ((td 2) + (am9 - (mE k))) := ⟨_, rfl⟩
  refine q_last (k := 2) 7 (ws1 := [((ta 0), .inr (7, [.ref (ta 1), .int (nI n), .int (nI lft), .int (nI rgt), .int (nI ns), .ref (ta 2), .ref (ta 7), .ref (ta 8), .ref (ta 9), .ref (ta 10)])), ((ta 1), .inr (1, [.int (nI g), .int ign, .int part, .int heat])), ((ta 2), .inl (ct 4, 4, .inr (.inr (.inr (.inr (rw4 (ta 3) (ta 4) (ta 5) (ta 6))))))), ((ta 3), .inl (ct 1, 32, .inr (.inl mM))), ((ta 4), .inl (ct 1, 32, .inr (.inl mP))), ((ta 5), .inl (ct 1, 32, .inr (.inl mE))), ((ta 6), .inl (ct 1, 32, .inr (.inl mF))), ((ta 7), .inl (ct 1, 4, .inr (.inl td_1))), ((ta 8), .inl (ct 1, 6, .inr (.inl cm))), ((ta 9), .inl (ct 1, 32, .inr (.inl gr))), ((ta 10), .inl (ct 0, 32, .inl gs))]) etd_1 hx hb hE hP hD hS rfl rfl (by omega) (by decide) rfl d_Tube_tellPart_18 (fun H locs hP hD hS => ?_)
  refine lv_aload_n hx hb d_Tube_tellPart_19 rfl (lv_at hl 0 rfl) ?_
  refine q_get 0 5 i_Tube rfl hx hb hts hown hE hP rfl (by decide) x_90 rfl d_Tube_tellPart_20 ?_
  refine lv_iload_n hx hb d_Tube_tellPart_23 rfl (lv_at hl 1 rfl) ?_
  refine q_aald (k := 2) (r := (ta 5)) 2 hx hb hE hP rfl rfl (by decide) (by decide) rfl d_Tube_tellPart_24 ?_
  refine lv_iload_n hx hb d_Tube_tellPart_25 rfl (lv_at hl 2 rfl) ?_
  refine lv_lload_n hx hb d_Tube_tellPart_26 rfl (lv_at hl 3 rfl) ?_
  obtain ⟨mE_1, emE_1⟩ : ∃ g9 : Nat → Int64, g9 = vp_updL mE k am9 := ⟨_, rfl⟩
  refine q_last (k := k) 5 (ws1 := [((ta 0), .inr (7, [.ref (ta 1), .int (nI n), .int (nI lft), .int (nI rgt), .int (nI ns), .ref (ta 2), .ref (ta 7), .ref (ta 8), .ref (ta 9), .ref (ta 10)])), ((ta 1), .inr (1, [.int (nI g), .int ign, .int part, .int heat])), ((ta 2), .inl (ct 4, 4, .inr (.inr (.inr (.inr (rw4 (ta 3) (ta 4) (ta 5) (ta 6))))))), ((ta 3), .inl (ct 1, 32, .inr (.inl mM))), ((ta 4), .inl (ct 1, 32, .inr (.inl mP))), ((ta 5), .inl (ct 1, 32, .inr (.inl mE_1))), ((ta 6), .inl (ct 1, 32, .inr (.inl mF))), ((ta 7), .inl (ct 1, 4, .inr (.inl td_1))), ((ta 8), .inl (ct 1, 6, .inr (.inl cm))), ((ta 9), .inl (ct 1, 32, .inr (.inl gr))), ((ta 10), .inl (ct 0, 32, .inl gs))]) emE_1 hx hb hE hP hD hS rfl rfl (by omega) (by decide) rfl d_Tube_tellPart_27 (fun H locs hP hD hS => ?_)
  exact rW_v hx hb hr hlk hAe hS hP hD (Nat.le_of_ble_eq_true rfl) (Nat.le_of_ble_eq_true rfl) d_Tube_tellPart_28 ⟨mE_1, td_1, rfl, rfl, ⟨emE_1, etd_1⟩⟩
set_option maxHeartbeats 4000000 in
set_option maxRecDepth 100000 in
theorem c_Tube_tellPart_3 (l : Launch) (D : va_G) (ct : Nat → ClassId) (st : Nat → Nat) (ta : Nat → Nat) (g : Nat) (ign : Int32) (part : Int32) (heat : Int32) (n : Nat) (lft : Nat) (rgt : Nat) (ns : Nat) (mM : Nat → Int64) (mP : Nat → Int64) (mE : Nat → Int64) (mF : Nat → Int64) (td : Nat → Int64) (cm : Nat → Int64) (gr : Nat → Int64) (gs : Nat → Int32) (k : Nat) (am9 : Int64) (hk : k < 32) (sz : Nat) : Met l y_Tube_tellPart (wsy y_Tube_tellPart b_Tube_tellPart 5 (none)) (rmW 0 0 0 0) (PcW D ct st [.ref (ta 0), .int 3, .int (nI k), .long am9] [((ta 0), .inr (7, [.ref (ta 1), .int (nI n), .int (nI lft), .int (nI rgt), .int (nI ns), .ref (ta 2), .ref (ta 7), .ref (ta 8), .ref (ta 9), .ref (ta 10)])), ((ta 1), .inr (1, [.int (nI g), .int ign, .int part, .int heat])), ((ta 2), .inl (ct 4, 4, .inr (.inr (.inr (.inr (rw4 (ta 3) (ta 4) (ta 5) (ta 6))))))), ((ta 3), .inl (ct 1, 32, .inr (.inl mM))), ((ta 4), .inl (ct 1, 32, .inr (.inl mP))), ((ta 5), .inl (ct 1, 32, .inr (.inl mE))), ((ta 6), .inl (ct 1, 32, .inr (.inl mF))), ((ta 7), .inl (ct 1, 4, .inr (.inl td))), ((ta 8), .inl (ct 1, 6, .inr (.inl cm))), ((ta 9), .inl (ct 1, 32, .inr (.inl gr))), ((ta 10), .inl (ct 0, 32, .inl gs))] sz) (QcW D [((ta 0), .inr (7, [.ref (ta 1), .int (nI n), .int (nI lft), .int (nI rgt), .int (nI ns), .ref (ta 2), .ref (ta 7), .ref (ta 8), .ref (ta 9), .ref (ta 10)])), ((ta 1), .inr (1, [.int (nI g), .int ign, .int part, .int heat])), ((ta 2), .inl (ct 4, 4, .inr (.inr (.inr (.inr (rw4 (ta 3) (ta 4) (ta 5) (ta 6))))))), ((ta 3), .inl (ct 1, 32, .inr (.inl mM))), ((ta 4), .inl (ct 1, 32, .inr (.inl mP))), ((ta 5), .inl (ct 1, 32, .inr (.inl mE))), ((ta 6), .inl (ct 1, 32, .inr (.inl mF))), ((ta 7), .inl (ct 1, 4, .inr (.inl td))), ((ta 8), .inl (ct 1, 6, .inr (.inl cm))), ((ta 9), .inl (ct 1, 32, .inr (.inl gr))), ((ta 10), .inl (ct 0, 32, .inl gs))] sz (fun v W1 => ∃ (mF1 : Nat → Int64) (td1 : Nat → Int64), v = none ∧ W1 = [((ta 0), .inr (7, [.ref (ta 1), .int (nI n), .int (nI lft), .int (nI rgt), .int (nI ns), .ref (ta 2), .ref (ta 7), .ref (ta 8), .ref (ta 9), .ref (ta 10)])), ((ta 1), .inr (1, [.int (nI g), .int ign, .int part, .int heat])), ((ta 2), .inl (ct 4, 4, .inr (.inr (.inr (.inr (rw4 (ta 3) (ta 4) (ta 5) (ta 6))))))), ((ta 3), .inl (ct 1, 32, .inr (.inl mM))), ((ta 4), .inl (ct 1, 32, .inr (.inl mP))), ((ta 5), .inl (ct 1, 32, .inr (.inl mE))), ((ta 6), .inl (ct 1, 32, .inr (.inl mF1))), ((ta 7), .inl (ct 1, 4, .inr (.inl td1))), ((ta 8), .inl (ct 1, 6, .inr (.inl cm))), ((ta 9), .inl (ct 1, 32, .inr (.inl gr))), ((ta 10), .inl (ct 0, 32, .inl gs))] ∧ (mF1 = vp_updL mF k am9 ∧ td1 = vp_updL td 3 (td 3 + (am9 - mF k))))) 0 0 (va_A [((ta 0), .inr (7, [.ref (ta 1), .int (nI n), .int (nI lft), .int (nI rgt), .int (nI ns), .ref (ta 2), .ref (ta 7), .ref (ta 8), .ref (ta 9), .ref (ta 10)])), ((ta 1), .inr (1, [.int (nI g), .int ign, .int part, .int heat])), ((ta 2), .inl (ct 4, 4, .inr (.inr (.inr (.inr (rw4 (ta 3) (ta 4) (ta 5) (ta 6))))))), ((ta 3), .inl (ct 1, 32, .inr (.inl mM))), ((ta 4), .inl (ct 1, 32, .inr (.inl mP))), ((ta 5), .inl (ct 1, 32, .inr (.inl mE))), ((ta 6), .inl (ct 1, 32, .inr (.inl mF))), ((ta 7), .inl (ct 1, 4, .inr (.inl td))), ((ta 8), .inl (ct 1, 6, .inr (.inl cm))), ((ta 9), .inl (ct 1, 32, .inr (.inl gr))), ((ta 10), .inl (ct 0, 32, .inl gs))] sz) := by
  refine enterW (by decide) (Nat.le_of_ble_eq_true rfl) ?_
  intro p e s m args below meth c ls A hx hb hr hml hown hts hlk hin hsz hAe hP hD hA hE hV hS hl
  have hl : lv_has ls 5 [(0, .ref (ta 0)), (1, .int 3), (2, .int (nI k)), (3, .long am9)] := hl
  refine lv_aload_n hx hb d_Tube_tellPart_0 rfl (lv_at hl 0 rfl) ?_
  refine q_get 0 6 i_Tube rfl hx hb hts hown hE hP rfl (by decide) x_93 rfl d_Tube_tellPart_1 ?_
  refine lv_iload_n hx hb d_Tube_tellPart_4 rfl (lv_at hl 1 rfl) ?_
  refine lv_dup2_11 hx hb d_Tube_tellPart_5 rfl rfl ?_
  refine q_lald (k := 3) 7 hx hb hE hP rfl rfl (by omega) (by decide) d_Tube_tellPart_6 ?_
  refine lv_lload_n hx hb d_Tube_tellPart_7 rfl (lv_at hl 3 rfl) ?_
  refine lv_aload_n hx hb d_Tube_tellPart_8 rfl (lv_at hl 0 rfl) ?_
  refine q_get 0 5 i_Tube rfl hx hb hts hown hE hP rfl (by decide) x_90 rfl d_Tube_tellPart_9 ?_
  refine lv_iload_n hx hb d_Tube_tellPart_12 rfl (lv_at hl 1 rfl) ?_
  refine q_aald (k := 3) (r := (ta 6)) 2 hx hb hE hP rfl rfl (by decide) (by decide) rfl d_Tube_tellPart_13 ?_
  refine lv_iload_n hx hb d_Tube_tellPart_14 rfl (lv_at hl 2 rfl) ?_
  refine q_lald (k := k) 6 hx hb hE hP rfl rfl (by omega) (by decide) d_Tube_tellPart_15 ?_
  refine lv_lsub hx hb d_Tube_tellPart_16 ?_
  refine lv_ladd hx hb d_Tube_tellPart_17 ?_
  obtain ⟨td_1, etd_1⟩ : ∃ g9 : Nat → Int64, g9 = vp_updL td 3 ((td 3) + (am9 - (mF k))) := ⟨_, rfl⟩
  refine q_last (k := 3) 7 (ws1 := [((ta 0), .inr (7, [.ref (ta 1), .int (nI n), .int (nI lft), .int (nI rgt), .int (nI ns), .ref (ta 2), .ref (ta 7), .ref (ta 8), .ref (ta 9), .ref (ta 10)])), ((ta 1), .inr (1, [.int (nI g), .int ign, .int part, .int heat])), ((ta 2), .inl (ct 4, 4, .inr (.inr (.inr (.inr (rw4 (ta 3) (ta 4) (ta 5) (ta 6))))))), ((ta 3), .inl (ct 1, 32, .inr (.inl mM))), ((ta 4), .inl (ct 1, 32, .inr (.inl mP))), ((ta 5), .inl (ct 1, 32, .inr (.inl mE))), ((ta 6), .inl (ct 1, 32, .inr (.inl mF))), ((ta 7), .inl (ct 1, 4, .inr (.inl td_1))), ((ta 8), .inl (ct 1, 6, .inr (.inl cm))), ((ta 9), .inl (ct 1, 32, .inr (.inl gr))), ((ta 10), .inl (ct 0, 32, .inl gs))]) etd_1 hx hb hE hP hD hS rfl rfl (by omega) (by decide) rfl d_Tube_tellPart_18 (fun H locs hP hD hS => ?_)
  refine lv_aload_n hx hb d_Tube_tellPart_19 rfl (lv_at hl 0 rfl) ?_
  refine q_get 0 5 i_Tube rfl hx hb hts hown hE hP rfl (by decide) x_90 rfl d_Tube_tellPart_20 ?_
  refine lv_iload_n hx hb d_Tube_tellPart_23 rfl (lv_at hl 1 rfl) ?_
  refine q_aald (k := 3) (r := (ta 6)) 2 hx hb hE hP rfl rfl (by decide) (by decide) rfl d_Tube_tellPart_24 ?_
  refine lv_iload_n hx hb d_Tube_tellPart_25 rfl (lv_at hl 2 rfl) ?_
  refine lv_lload_n hx hb d_Tube_tellPart_26 rfl (lv_at hl 3 rfl) ?_
  obtain ⟨mF_1, emF_1⟩ : ∃ g9 : Nat → Int64, g9 = vp_updL mF k am9 := ⟨_, rfl⟩
  refine q_last (k := k) 6 (ws1 := [((ta 0), .inr (7, [.ref (ta 1), .int (nI n), .int (nI lft), .int (nI rgt), .int (nI ns), .ref (ta 2), .ref (ta 7), .ref (ta 8), .ref (ta 9), .ref (ta 10)])), ((ta 1), .inr (1, [.int (nI g), .int ign, .int part, .int heat])), ((ta 2), .inl (ct 4, 4, .inr (.inr (.inr (.inr (rw4 (ta 3) (ta 4) (ta 5) (ta 6))))))), ((ta 3), .inl (ct 1, 32, .inr (.inl mM))), ((ta 4), .inl (ct 1, 32, .inr (.inl mP))), ((ta 5), .inl (ct 1, 32, .inr (.inl mE))), ((ta 6), .inl (ct 1, 32, .inr (.inl mF_1))), ((ta 7), .inl (ct 1, 4, .inr (.inl td_1))), ((ta 8), .inl (ct 1, 6, .inr (.inl cm))), ((ta 9), .inl (ct 1, 32, .inr (.inl gr))), ((ta 10), .inl (ct 0, 32, .inl gs))]) emF_1 hx hb hE hP hD hS rfl rfl (by omega) (by decide) rfl d_Tube_tellPart_27 (fun H locs hP hD hS => ?_)
  exact rW_v hx hb hr hlk hAe hS hP hD (Nat.le_of_ble_eq_true rfl) (Nat.le_of_ble_eq_true rfl) d_Tube_tellPart_28 ⟨mF_1, td_1, rfl, rfl, ⟨emF_1, etd_1⟩⟩
set_option maxHeartbeats 4000000 in
set_option maxRecDepth 100000 in
theorem c_Tube_tell (l : Launch) (D : va_G) (ct : Nat → ClassId) (st : Nat → Nat) (ta : Nat → Nat) (g : Nat) (ign : Int32) (part : Int32) (heat : Int32) (n : Nat) (lft : Nat) (rgt : Nat) (ns : Nat) (mM : Nat → Int64) (mP : Nat → Int64) (mE : Nat → Int64) (mF : Nat → Int64) (td : Nat → Int64) (cm : Nat → Int64) (gr : Nat → Int64) (gs : Nat → Int32) (k : Nat) (ma : Int32) (po : Int32) (en : Int32) (fu : Int32) (hk : k < 32) (sz : Nat) : Met l y_Tube_tell (wsy y_Tube_tell b_Tube_tell 6 (none)) (rmW 1 0 0 24) (PcW D ct st [.ref (ta 0), .int (nI k), .int ma, .int po, .int en, .int fu] [((ta 0), .inr (7, [.ref (ta 1), .int (nI n), .int (nI lft), .int (nI rgt), .int (nI ns), .ref (ta 2), .ref (ta 7), .ref (ta 8), .ref (ta 9), .ref (ta 10)])), ((ta 1), .inr (1, [.int (nI g), .int ign, .int part, .int heat])), ((ta 2), .inl (ct 4, 4, .inr (.inr (.inr (.inr (rw4 (ta 3) (ta 4) (ta 5) (ta 6))))))), ((ta 3), .inl (ct 1, 32, .inr (.inl mM))), ((ta 4), .inl (ct 1, 32, .inr (.inl mP))), ((ta 5), .inl (ct 1, 32, .inr (.inl mE))), ((ta 6), .inl (ct 1, 32, .inr (.inl mF))), ((ta 7), .inl (ct 1, 4, .inr (.inl td))), ((ta 8), .inl (ct 1, 6, .inr (.inl cm))), ((ta 9), .inl (ct 1, 32, .inr (.inl gr))), ((ta 10), .inl (ct 0, 32, .inl gs))] sz) (QcW D [((ta 0), .inr (7, [.ref (ta 1), .int (nI n), .int (nI lft), .int (nI rgt), .int (nI ns), .ref (ta 2), .ref (ta 7), .ref (ta 8), .ref (ta 9), .ref (ta 10)])), ((ta 1), .inr (1, [.int (nI g), .int ign, .int part, .int heat])), ((ta 2), .inl (ct 4, 4, .inr (.inr (.inr (.inr (rw4 (ta 3) (ta 4) (ta 5) (ta 6))))))), ((ta 3), .inl (ct 1, 32, .inr (.inl mM))), ((ta 4), .inl (ct 1, 32, .inr (.inl mP))), ((ta 5), .inl (ct 1, 32, .inr (.inl mE))), ((ta 6), .inl (ct 1, 32, .inr (.inl mF))), ((ta 7), .inl (ct 1, 4, .inr (.inl td))), ((ta 8), .inl (ct 1, 6, .inr (.inl cm))), ((ta 9), .inl (ct 1, 32, .inr (.inl gr))), ((ta 10), .inl (ct 0, 32, .inl gs))] sz (fun v W1 => ∃ (mM1 : Nat → Int64) (mP1 : Nat → Int64) (mE1 : Nat → Int64) (mF1 : Nat → Int64) (td1 : Nat → Int64), v = none ∧ W1 = [((ta 0), .inr (7, [.ref (ta 1), .int (nI n), .int (nI lft), .int (nI rgt), .int (nI ns), .ref (ta 2), .ref (ta 7), .ref (ta 8), .ref (ta 9), .ref (ta 10)])), ((ta 1), .inr (1, [.int (nI g), .int ign, .int part, .int heat])), ((ta 2), .inl (ct 4, 4, .inr (.inr (.inr (.inr (rw4 (ta 3) (ta 4) (ta 5) (ta 6))))))), ((ta 3), .inl (ct 1, 32, .inr (.inl mM1))), ((ta 4), .inl (ct 1, 32, .inr (.inl mP1))), ((ta 5), .inl (ct 1, 32, .inr (.inl mE1))), ((ta 6), .inl (ct 1, 32, .inr (.inl mF1))), ((ta 7), .inl (ct 1, 4, .inr (.inl td1))), ((ta 8), .inl (ct 1, 6, .inr (.inl cm))), ((ta 9), .inl (ct 1, 32, .inr (.inl gr))), ((ta 10), .inl (ct 0, 32, .inl gs))] ∧ (mM1 = vp_updL mM k ma.toInt64 ∧ mP1 = vp_updL mP k po.toInt64 ∧ mE1 = vp_updL mE k en.toInt64 ∧ mF1 = vp_updL mF k fu.toInt64 ∧ td1 0 = td 0 + (ma.toInt64 - mM k) ∧ td1 1 = td 1 + (po.toInt64 - mP k) ∧ td1 2 = td 2 + (en.toInt64 - mE k) ∧ td1 3 = td 3 + (fu.toInt64 - mF k)))) 0 0 (va_A [((ta 0), .inr (7, [.ref (ta 1), .int (nI n), .int (nI lft), .int (nI rgt), .int (nI ns), .ref (ta 2), .ref (ta 7), .ref (ta 8), .ref (ta 9), .ref (ta 10)])), ((ta 1), .inr (1, [.int (nI g), .int ign, .int part, .int heat])), ((ta 2), .inl (ct 4, 4, .inr (.inr (.inr (.inr (rw4 (ta 3) (ta 4) (ta 5) (ta 6))))))), ((ta 3), .inl (ct 1, 32, .inr (.inl mM))), ((ta 4), .inl (ct 1, 32, .inr (.inl mP))), ((ta 5), .inl (ct 1, 32, .inr (.inl mE))), ((ta 6), .inl (ct 1, 32, .inr (.inl mF))), ((ta 7), .inl (ct 1, 4, .inr (.inl td))), ((ta 8), .inl (ct 1, 6, .inr (.inl cm))), ((ta 9), .inl (ct 1, 32, .inr (.inl gr))), ((ta 10), .inl (ct 0, 32, .inl gs))] sz) := by
  refine enterW (by decide) (Nat.le_of_ble_eq_true rfl) ?_
  intro p e s m args below meth c ls A hx hb hr hml hown hts hlk hin hsz hAe hP hD hA hE hV hS hl
  have hl : lv_has ls 6 [(0, .ref (ta 0)), (1, .int (nI k)), (2, .int ma), (3, .int po), (4, .int en), (5, .int fu)] := hl
  refine lv_aload_n hx hb d_Tube_tell_0 rfl (lv_at hl 0 rfl) ?_
  refine lv_iconst (v := 0) hx hb d_Tube_tell_1 (by decide) ?_
  refine lv_iload_n hx hb d_Tube_tell_2 rfl (lv_at hl 1 rfl) ?_
  refine lv_iload_n hx hb d_Tube_tell_3 rfl (lv_at hl 2 rfl) ?_
  refine lv_i2l hx hb d_Tube_tell_4 rfl ?_
  refine cWV (As := [.int 0, .int (nI k), .long ma.toInt64]) (rest := []) (q9 := 0) (ci := 7) K_Tube_tellPart x_74 hx hb hml hown hts hE hV hS (c_Tube_tellPart_0 l D ct st ta g ign part heat n lft rgt ns mM mP mE mF td cm gr gs k ma.toInt64 (by omega) _) hP hD hA [0, 1, 2, 3, 4, 5, 6, 7, 8, 9, 10] [] (wr := []) rfl rfl (by decide) (by decide) (by decide) rfl hP rfl rfl hl.1 rfl (Nat.le_of_ble_eq_true rfl) d_Tube_tell_5 (Nat.le_of_ble_eq_true rfl) (Nat.le_of_ble_eq_true rfl) ⟨Nat.le_of_ble_eq_true rfl, Nat.le_of_ble_eq_true rfl⟩ (fun v W1 H locs hpost hP hD hS => ?_)
  obtain ⟨mM1_1, td1_1, rfl, rfl, hq_5⟩ := hpost
  have hP : va_P D classes [((ta 0), .inr (7, [.ref (ta 1), .int (nI n), .int (nI lft), .int (nI rgt), .int (nI ns), .ref (ta 2), .ref (ta 7), .ref (ta 8), .ref (ta 9), .ref (ta 10)])), ((ta 1), .inr (1, [.int (nI g), .int ign, .int part, .int heat])), ((ta 2), .inl (ct 4, 4, .inr (.inr (.inr (.inr (rw4 (ta 3) (ta 4) (ta 5) (ta 6))))))), ((ta 3), .inl (ct 1, 32, .inr (.inl mM1_1))), ((ta 4), .inl (ct 1, 32, .inr (.inl mP))), ((ta 5), .inl (ct 1, 32, .inr (.inl mE))), ((ta 6), .inl (ct 1, 32, .inr (.inl mF))), ((ta 7), .inl (ct 1, 4, .inr (.inl td1_1))), ((ta 8), .inl (ct 1, 6, .inr (.inl cm))), ((ta 9), .inl (ct 1, 32, .inr (.inl gr))), ((ta 10), .inl (ct 0, 32, .inl gs))] H := hP
  have hD : va_D A [((ta 0), .inr (7, [.ref (ta 1), .int (nI n), .int (nI lft), .int (nI rgt), .int (nI ns), .ref (ta 2), .ref (ta 7), .ref (ta 8), .ref (ta 9), .ref (ta 10)])), ((ta 1), .inr (1, [.int (nI g), .int ign, .int part, .int heat])), ((ta 2), .inl (ct 4, 4, .inr (.inr (.inr (.inr (rw4 (ta 3) (ta 4) (ta 5) (ta 6))))))), ((ta 3), .inl (ct 1, 32, .inr (.inl mM1_1))), ((ta 4), .inl (ct 1, 32, .inr (.inl mP))), ((ta 5), .inl (ct 1, 32, .inr (.inl mE))), ((ta 6), .inl (ct 1, 32, .inr (.inl mF))), ((ta 7), .inl (ct 1, 4, .inr (.inl td1_1))), ((ta 8), .inl (ct 1, 6, .inr (.inl cm))), ((ta 9), .inl (ct 1, 32, .inr (.inl gr))), ((ta 10), .inl (ct 0, 32, .inl gs))] := hD
  refine lv_aload_n hx hb d_Tube_tell_8 rfl (lv_at hl 0 rfl) ?_
  refine lv_iconst (v := 1) hx hb d_Tube_tell_9 (by decide) ?_
  refine lv_iload_n hx hb d_Tube_tell_10 rfl (lv_at hl 1 rfl) ?_
  refine lv_iload_n hx hb d_Tube_tell_11 rfl (lv_at hl 3 rfl) ?_
  refine lv_i2l hx hb d_Tube_tell_12 rfl ?_
  refine cWV (As := [.int 1, .int (nI k), .long po.toInt64]) (rest := []) (q9 := 0) (ci := 7) K_Tube_tellPart x_74 hx hb hml hown hts hE hV hS (c_Tube_tellPart_1 l D ct st ta g ign part heat n lft rgt ns mM1_1 mP mE mF td1_1 cm gr gs k po.toInt64 (by omega) _) hP hD hA [0, 1, 2, 3, 4, 5, 6, 7, 8, 9, 10] [] (wr := []) rfl rfl (by decide) (by decide) (by decide) rfl hP rfl rfl hl.1 rfl (Nat.le_of_ble_eq_true rfl) d_Tube_tell_13 (Nat.le_of_ble_eq_true rfl) (Nat.le_of_ble_eq_true rfl) ⟨Nat.le_of_ble_eq_true rfl, Nat.le_of_ble_eq_true rfl⟩ (fun v W1 H locs hpost hP hD hS => ?_)
  obtain ⟨mP1_1, td1_2, rfl, rfl, hq_13⟩ := hpost
  have hP : va_P D classes [((ta 0), .inr (7, [.ref (ta 1), .int (nI n), .int (nI lft), .int (nI rgt), .int (nI ns), .ref (ta 2), .ref (ta 7), .ref (ta 8), .ref (ta 9), .ref (ta 10)])), ((ta 1), .inr (1, [.int (nI g), .int ign, .int part, .int heat])), ((ta 2), .inl (ct 4, 4, .inr (.inr (.inr (.inr (rw4 (ta 3) (ta 4) (ta 5) (ta 6))))))), ((ta 3), .inl (ct 1, 32, .inr (.inl mM1_1))), ((ta 4), .inl (ct 1, 32, .inr (.inl mP1_1))), ((ta 5), .inl (ct 1, 32, .inr (.inl mE))), ((ta 6), .inl (ct 1, 32, .inr (.inl mF))), ((ta 7), .inl (ct 1, 4, .inr (.inl td1_2))), ((ta 8), .inl (ct 1, 6, .inr (.inl cm))), ((ta 9), .inl (ct 1, 32, .inr (.inl gr))), ((ta 10), .inl (ct 0, 32, .inl gs))] H := hP
  have hD : va_D A [((ta 0), .inr (7, [.ref (ta 1), .int (nI n), .int (nI lft), .int (nI rgt), .int (nI ns), .ref (ta 2), .ref (ta 7), .ref (ta 8), .ref (ta 9), .ref (ta 10)])), ((ta 1), .inr (1, [.int (nI g), .int ign, .int part, .int heat])), ((ta 2), .inl (ct 4, 4, .inr (.inr (.inr (.inr (rw4 (ta 3) (ta 4) (ta 5) (ta 6))))))), ((ta 3), .inl (ct 1, 32, .inr (.inl mM1_1))), ((ta 4), .inl (ct 1, 32, .inr (.inl mP1_1))), ((ta 5), .inl (ct 1, 32, .inr (.inl mE))), ((ta 6), .inl (ct 1, 32, .inr (.inl mF))), ((ta 7), .inl (ct 1, 4, .inr (.inl td1_2))), ((ta 8), .inl (ct 1, 6, .inr (.inl cm))), ((ta 9), .inl (ct 1, 32, .inr (.inl gr))), ((ta 10), .inl (ct 0, 32, .inl gs))] := hD
  refine lv_aload_n hx hb d_Tube_tell_16 rfl (lv_at hl 0 rfl) ?_
  refine lv_iconst (v := 2) hx hb d_Tube_tell_17 (by decide) ?_
  refine lv_iload_n hx hb d_Tube_tell_18 rfl (lv_at hl 1 rfl) ?_
  refine lv_iload hx hb d_Tube_tell_19 (lv_at hl 4 rfl) ?_
  refine lv_i2l hx hb d_Tube_tell_21 rfl ?_
  refine cWV (As := [.int 2, .int (nI k), .long en.toInt64]) (rest := []) (q9 := 0) (ci := 7) K_Tube_tellPart x_74 hx hb hml hown hts hE hV hS (c_Tube_tellPart_2 l D ct st ta g ign part heat n lft rgt ns mM1_1 mP1_1 mE mF td1_2 cm gr gs k en.toInt64 (by omega) _) hP hD hA [0, 1, 2, 3, 4, 5, 6, 7, 8, 9, 10] [] (wr := []) rfl rfl (by decide) (by decide) (by decide) rfl hP rfl rfl hl.1 rfl (Nat.le_of_ble_eq_true rfl) d_Tube_tell_22 (Nat.le_of_ble_eq_true rfl) (Nat.le_of_ble_eq_true rfl) ⟨Nat.le_of_ble_eq_true rfl, Nat.le_of_ble_eq_true rfl⟩ (fun v W1 H locs hpost hP hD hS => ?_)
  obtain ⟨mE1_1, td1_3, rfl, rfl, hq_22⟩ := hpost
  have hP : va_P D classes [((ta 0), .inr (7, [.ref (ta 1), .int (nI n), .int (nI lft), .int (nI rgt), .int (nI ns), .ref (ta 2), .ref (ta 7), .ref (ta 8), .ref (ta 9), .ref (ta 10)])), ((ta 1), .inr (1, [.int (nI g), .int ign, .int part, .int heat])), ((ta 2), .inl (ct 4, 4, .inr (.inr (.inr (.inr (rw4 (ta 3) (ta 4) (ta 5) (ta 6))))))), ((ta 3), .inl (ct 1, 32, .inr (.inl mM1_1))), ((ta 4), .inl (ct 1, 32, .inr (.inl mP1_1))), ((ta 5), .inl (ct 1, 32, .inr (.inl mE1_1))), ((ta 6), .inl (ct 1, 32, .inr (.inl mF))), ((ta 7), .inl (ct 1, 4, .inr (.inl td1_3))), ((ta 8), .inl (ct 1, 6, .inr (.inl cm))), ((ta 9), .inl (ct 1, 32, .inr (.inl gr))), ((ta 10), .inl (ct 0, 32, .inl gs))] H := hP
  have hD : va_D A [((ta 0), .inr (7, [.ref (ta 1), .int (nI n), .int (nI lft), .int (nI rgt), .int (nI ns), .ref (ta 2), .ref (ta 7), .ref (ta 8), .ref (ta 9), .ref (ta 10)])), ((ta 1), .inr (1, [.int (nI g), .int ign, .int part, .int heat])), ((ta 2), .inl (ct 4, 4, .inr (.inr (.inr (.inr (rw4 (ta 3) (ta 4) (ta 5) (ta 6))))))), ((ta 3), .inl (ct 1, 32, .inr (.inl mM1_1))), ((ta 4), .inl (ct 1, 32, .inr (.inl mP1_1))), ((ta 5), .inl (ct 1, 32, .inr (.inl mE1_1))), ((ta 6), .inl (ct 1, 32, .inr (.inl mF))), ((ta 7), .inl (ct 1, 4, .inr (.inl td1_3))), ((ta 8), .inl (ct 1, 6, .inr (.inl cm))), ((ta 9), .inl (ct 1, 32, .inr (.inl gr))), ((ta 10), .inl (ct 0, 32, .inl gs))] := hD
  refine lv_aload_n hx hb d_Tube_tell_25 rfl (lv_at hl 0 rfl) ?_
  refine lv_iconst (v := 3) hx hb d_Tube_tell_26 (by decide) ?_
  refine lv_iload_n hx hb d_Tube_tell_27 rfl (lv_at hl 1 rfl) ?_
  refine lv_iload hx hb d_Tube_tell_28 (lv_at hl 5 rfl) ?_
  refine lv_i2l hx hb d_Tube_tell_30 rfl ?_
  refine cWV (As := [.int 3, .int (nI k), .long fu.toInt64]) (rest := []) (q9 := 0) (ci := 7) K_Tube_tellPart x_74 hx hb hml hown hts hE hV hS (c_Tube_tellPart_3 l D ct st ta g ign part heat n lft rgt ns mM1_1 mP1_1 mE1_1 mF td1_3 cm gr gs k fu.toInt64 (by omega) _) hP hD hA [0, 1, 2, 3, 4, 5, 6, 7, 8, 9, 10] [] (wr := []) rfl rfl (by decide) (by decide) (by decide) rfl hP rfl rfl hl.1 rfl (Nat.le_of_ble_eq_true rfl) d_Tube_tell_31 (Nat.le_of_ble_eq_true rfl) (Nat.le_of_ble_eq_true rfl) ⟨Nat.le_of_ble_eq_true rfl, Nat.le_of_ble_eq_true rfl⟩ (fun v W1 H locs hpost hP hD hS => ?_)
  obtain ⟨mF1_1, td1_4, rfl, rfl, hq_31⟩ := hpost
  have hP : va_P D classes [((ta 0), .inr (7, [.ref (ta 1), .int (nI n), .int (nI lft), .int (nI rgt), .int (nI ns), .ref (ta 2), .ref (ta 7), .ref (ta 8), .ref (ta 9), .ref (ta 10)])), ((ta 1), .inr (1, [.int (nI g), .int ign, .int part, .int heat])), ((ta 2), .inl (ct 4, 4, .inr (.inr (.inr (.inr (rw4 (ta 3) (ta 4) (ta 5) (ta 6))))))), ((ta 3), .inl (ct 1, 32, .inr (.inl mM1_1))), ((ta 4), .inl (ct 1, 32, .inr (.inl mP1_1))), ((ta 5), .inl (ct 1, 32, .inr (.inl mE1_1))), ((ta 6), .inl (ct 1, 32, .inr (.inl mF1_1))), ((ta 7), .inl (ct 1, 4, .inr (.inl td1_4))), ((ta 8), .inl (ct 1, 6, .inr (.inl cm))), ((ta 9), .inl (ct 1, 32, .inr (.inl gr))), ((ta 10), .inl (ct 0, 32, .inl gs))] H := hP
  have hD : va_D A [((ta 0), .inr (7, [.ref (ta 1), .int (nI n), .int (nI lft), .int (nI rgt), .int (nI ns), .ref (ta 2), .ref (ta 7), .ref (ta 8), .ref (ta 9), .ref (ta 10)])), ((ta 1), .inr (1, [.int (nI g), .int ign, .int part, .int heat])), ((ta 2), .inl (ct 4, 4, .inr (.inr (.inr (.inr (rw4 (ta 3) (ta 4) (ta 5) (ta 6))))))), ((ta 3), .inl (ct 1, 32, .inr (.inl mM1_1))), ((ta 4), .inl (ct 1, 32, .inr (.inl mP1_1))), ((ta 5), .inl (ct 1, 32, .inr (.inl mE1_1))), ((ta 6), .inl (ct 1, 32, .inr (.inl mF1_1))), ((ta 7), .inl (ct 1, 4, .inr (.inl td1_4))), ((ta 8), .inl (ct 1, 6, .inr (.inl cm))), ((ta 9), .inl (ct 1, 32, .inr (.inl gr))), ((ta 10), .inl (ct 0, 32, .inl gs))] := hD
  exact rW_v hx hb hr hlk hAe hS hP hD (Nat.le_of_ble_eq_true rfl) (Nat.le_of_ble_eq_true rfl) d_Tube_tell_34 ⟨mM1_1, mP1_1, mE1_1, mF1_1, td1_4, rfl, rfl, ⟨hq_5.1, hq_13.1, hq_22.1, hq_31.1, by simp (disch := omega) only [hq_31.2, hq_22.2, hq_13.2, hq_5.2, pk_uLn, pk_uLs], by simp (disch := omega) only [hq_31.2, hq_22.2, hq_13.2, hq_5.2, pk_uLn, pk_uLs], by simp (disch := omega) only [hq_31.2, hq_22.2, hq_13.2, hq_5.2, pk_uLn, pk_uLs], by simp (disch := omega) only [hq_31.2, hq_22.2, hq_13.2, hq_5.2, pk_uLn, pk_uLs]⟩⟩
set_option maxHeartbeats 4000000 in
set_option maxRecDepth 100000 in
theorem c_Tube_isWall (l : Launch) (D : va_G) (ct : Nat → ClassId) (st : Nat → Nat) (ta : Nat → Nat) (g : Nat) (ign : Int32) (part : Int32) (heat : Int32) (n : Nat) (lft : Nat) (rgt : Nat) (ns : Nat) (mM : Nat → Int64) (mP : Nat → Int64) (mE : Nat → Int64) (mF : Nat → Int64) (td : Nat → Int64) (cm : Nat → Int64) (gr : Nat → Int64) (gs : Nat → Int32) (b9 : Nat) (hb9 : b9 ≤ n) (hn : n ≤ 32) (hl : lft ≤ 1) (hr : rgt ≤ 1) : Met l y_Tube_isWall (wsy y_Tube_isWall b_Tube_isWall 2 (some .boolean)) (k2_rm 0 0) (PcR D ct st [.ref (ta 0), .int (nI b9)] [((ta 0), .inr (7, [.ref (ta 1), .int (nI n), .int (nI lft), .int (nI rgt), .int (nI ns), .ref (ta 2), .ref (ta 7), .ref (ta 8), .ref (ta 9), .ref (ta 10)])), ((ta 1), .inr (1, [.int (nI g), .int ign, .int part, .int heat])), ((ta 2), .inl (ct 4, 4, .inr (.inr (.inr (.inr (rw4 (ta 3) (ta 4) (ta 5) (ta 6))))))), ((ta 3), .inl (ct 1, 32, .inr (.inl mM))), ((ta 4), .inl (ct 1, 32, .inr (.inl mP))), ((ta 5), .inl (ct 1, 32, .inr (.inl mE))), ((ta 6), .inl (ct 1, 32, .inr (.inl mF))), ((ta 7), .inl (ct 1, 4, .inr (.inl td))), ((ta 8), .inl (ct 1, 6, .inr (.inl cm))), ((ta 9), .inl (ct 1, 32, .inr (.inl gr))), ((ta 10), .inl (ct 0, 32, .inl gs))]) (k2_QcV (.int (bI (w_wall n lft rgt b9)))) 0 0 (fun _ => False) := by
  refine enterR (by decide) (Nat.le_of_ble_eq_true rfl) ?_
  intro p e s m args below meth c ls hx hb hr hml hown hts hlk hP hE hV hS hl
  have hl : lv_has ls 2 [(0, .ref (ta 0)), (1, .int (nI b9))] := hl
  refine lv_iload_n hx hb d_Tube_isWall_0 rfl (lv_at hl 1 rfl) ?_
  refine q_if_ne_n (a := b9) (tgt := 12) hx hb d_Tube_isWall_1 (by decide) rfl (by omega) (fun h_1 => ?_) (fun h_1 => ?_)
  · refine lv_iload_n hx hb d_Tube_isWall_12 rfl (lv_at hl 1 rfl) ?_
    refine lv_aload_n hx hb d_Tube_isWall_13 rfl (lv_at hl 0 rfl) ?_
    refine q_get 0 1 i_Tube rfl hx hb hts hown hE hP rfl (by decide) x_82 rfl d_Tube_isWall_14 ?_
    refine q_icmp_ne_n (a := b9) (b := n) (tgt := 32) hx hb d_Tube_isWall_17 (by decide) rfl rfl (by omega) (by omega) (fun h_17 => ?_) (fun h_17 => ?_)
    · refine lv_iconst (v := 0) hx hb d_Tube_isWall_32 (by decide) ?_
      exact rR_z hx hb hr hlk d_Tube_isWall_33 (bI_0 (by unfold w_wall; omega))
    · refine lv_aload_n hx hb d_Tube_isWall_20 rfl (lv_at hl 0 rfl) ?_
      refine q_get 0 3 i_Tube rfl hx hb hts hown hE hP rfl (by decide) x_86 rfl d_Tube_isWall_21 ?_
      refine lv_iconst (v := 1) hx hb d_Tube_isWall_24 (by decide) ?_
      refine q_icmp_ne_n (a := rgt) (b := 1) (tgt := 32) hx hb d_Tube_isWall_25 (by decide) rfl rfl (by omega) (by omega) (fun h_25 => ?_) (fun h_25 => ?_)
      · refine lv_iconst (v := 0) hx hb d_Tube_isWall_32 (by decide) ?_
        exact rR_z hx hb hr hlk d_Tube_isWall_33 (bI_0 (by unfold w_wall; omega))
      · refine lv_iconst (v := 1) hx hb d_Tube_isWall_28 (by decide) ?_
        refine lv_goto (tgt := 33) hx hb d_Tube_isWall_29 (by decide) ?_
        exact rR_z hx hb hr hlk d_Tube_isWall_33 (bI_1 (by unfold w_wall; omega))
  · refine lv_aload_n hx hb d_Tube_isWall_4 rfl (lv_at hl 0 rfl) ?_
    refine q_get 0 2 i_Tube rfl hx hb hts hown hE hP rfl (by decide) x_85 rfl d_Tube_isWall_5 ?_
    refine lv_iconst (v := 1) hx hb d_Tube_isWall_8 (by decide) ?_
    refine q_icmp_eq_n (a := lft) (b := 1) (tgt := 28) hx hb d_Tube_isWall_9 (by decide) rfl rfl (by omega) (by omega) (fun h_9 => ?_) (fun h_9 => ?_)
    · refine lv_iconst (v := 1) hx hb d_Tube_isWall_28 (by decide) ?_
      refine lv_goto (tgt := 33) hx hb d_Tube_isWall_29 (by decide) ?_
      exact rR_z hx hb hr hlk d_Tube_isWall_33 (bI_1 (by unfold w_wall; omega))
    · refine lv_iload_n hx hb d_Tube_isWall_12 rfl (lv_at hl 1 rfl) ?_
      refine lv_aload_n hx hb d_Tube_isWall_13 rfl (lv_at hl 0 rfl) ?_
      refine q_get 0 1 i_Tube rfl hx hb hts hown hE hP rfl (by decide) x_82 rfl d_Tube_isWall_14 ?_
      refine q_icmp_ne_n (a := b9) (b := n) (tgt := 32) hx hb d_Tube_isWall_17 (by decide) rfl rfl (by omega) (by omega) (fun h_17 => ?_) (fun h_17 => ?_)
      · refine lv_iconst (v := 0) hx hb d_Tube_isWall_32 (by decide) ?_
        exact rR_z hx hb hr hlk d_Tube_isWall_33 (bI_0 (by unfold w_wall; omega))
      · refine lv_aload_n hx hb d_Tube_isWall_20 rfl (lv_at hl 0 rfl) ?_
        refine q_get 0 3 i_Tube rfl hx hb hts hown hE hP rfl (by decide) x_86 rfl d_Tube_isWall_21 ?_
        refine lv_iconst (v := 1) hx hb d_Tube_isWall_24 (by decide) ?_
        refine q_icmp_ne_n (a := rgt) (b := 1) (tgt := 32) hx hb d_Tube_isWall_25 (by decide) rfl rfl (by omega) (by omega) (fun h_25 => ?_) (fun h_25 => ?_)
        · refine lv_iconst (v := 0) hx hb d_Tube_isWall_32 (by decide) ?_
          exact rR_z hx hb hr hlk d_Tube_isWall_33 (bI_0 (by unfold w_wall; omega))
        · refine lv_iconst (v := 1) hx hb d_Tube_isWall_28 (by decide) ?_
          refine lv_goto (tgt := 33) hx hb d_Tube_isWall_29 (by decide) ?_
          exact rR_z hx hb hr hlk d_Tube_isWall_33 (bI_1 (by unfold w_wall; omega))
set_option maxHeartbeats 4000000 in
set_option maxRecDepth 100000 in
theorem c_Tube_pressure (l : Launch) (D : va_G) (ct : Nat → ClassId) (st : Nat → Nat) (ta : Nat → Nat) (g : Nat) (ign : Int32) (part : Int32) (heat : Int32) (n : Nat) (lft : Nat) (rgt : Nat) (ns : Nat) (mM : Nat → Int64) (mP : Nat → Int64) (mE : Nat → Int64) (mF : Nat → Int64) (td : Nat → Int64) (cm : Nat → Int64) (gr : Nat → Int64) (gs : Nat → Int32) (k : Nat) (hg : g < 3) (hk : k < 32) (hm : 1 ≤ (mM k).toInt ∧ (mM k).toInt ≤ 1000000) : Met l y_Tube_pressure (wsy y_Tube_pressure b_Tube_pressure 2 (some .long)) (k2_rm 2 50) (PcR D ct st [.ref (ta 0), .int (nI k)] [((ta 0), .inr (7, [.ref (ta 1), .int (nI n), .int (nI lft), .int (nI rgt), .int (nI ns), .ref (ta 2), .ref (ta 7), .ref (ta 8), .ref (ta 9), .ref (ta 10)])), ((ta 1), .inr (1, [.int (nI g), .int ign, .int part, .int heat])), ((ta 2), .inl (ct 4, 4, .inr (.inr (.inr (.inr (rw4 (ta 3) (ta 4) (ta 5) (ta 6))))))), ((ta 3), .inl (ct 1, 32, .inr (.inl mM))), ((ta 4), .inl (ct 1, 32, .inr (.inl mP))), ((ta 5), .inl (ct 1, 32, .inr (.inl mE))), ((ta 6), .inl (ct 1, 32, .inr (.inl mF))), ((ta 7), .inl (ct 1, 4, .inr (.inl td))), ((ta 8), .inl (ct 1, 6, .inr (.inl cm))), ((ta 9), .inl (ct 1, 32, .inr (.inl gr))), ((ta 10), .inl (ct 0, 32, .inl gs))]) (k2_QcV (.long (w_pr g mM mP mE k))) 0 0 (fun _ => False) := by
  refine enterR (by decide) (Nat.le_of_ble_eq_true rfl) ?_
  intro p e s m args below meth c ls hx hb hr hml hown hts hlk hP hE hV hS hl
  have hl : lv_has ls 2 [(0, .ref (ta 0)), (1, .int (nI k))] := hl
  refine lv_aload_n hx hb d_Tube_pressure_0 rfl (lv_at hl 0 rfl) ?_
  refine q_get 0 0 i_Tube rfl hx hb hts hown hE hP rfl (by decide) x_78 rfl d_Tube_pressure_1 ?_
  refine lv_aload_n hx hb d_Tube_pressure_4 rfl (lv_at hl 0 rfl) ?_
  refine q_get 0 5 i_Tube rfl hx hb hts hown hE hP rfl (by decide) x_90 rfl d_Tube_pressure_5 ?_
  refine lv_iconst (v := 0) hx hb d_Tube_pressure_8 (by decide) ?_
  refine q_aald (k := 0) (r := (ta 3)) 2 hx hb hE hP rfl rfl (by decide) (by decide) rfl d_Tube_pressure_9 ?_
  refine lv_iload_n hx hb d_Tube_pressure_10 rfl (lv_at hl 1 rfl) ?_
  refine q_lald (k := k) 3 hx hb hE hP rfl rfl (by omega) (by decide) d_Tube_pressure_11 ?_
  refine lv_aload_n hx hb d_Tube_pressure_12 rfl (lv_at hl 0 rfl) ?_
  refine q_get 0 5 i_Tube rfl hx hb hts hown hE hP rfl (by decide) x_90 rfl d_Tube_pressure_13 ?_
  refine lv_iconst (v := 1) hx hb d_Tube_pressure_16 (by decide) ?_
  refine q_aald (k := 1) (r := (ta 4)) 2 hx hb hE hP rfl rfl (by decide) (by decide) rfl d_Tube_pressure_17 ?_
  refine lv_iload_n hx hb d_Tube_pressure_18 rfl (lv_at hl 1 rfl) ?_
  refine q_lald (k := k) 4 hx hb hE hP rfl rfl (by omega) (by decide) d_Tube_pressure_19 ?_
  refine lv_aload_n hx hb d_Tube_pressure_20 rfl (lv_at hl 0 rfl) ?_
  refine q_get 0 5 i_Tube rfl hx hb hts hown hE hP rfl (by decide) x_90 rfl d_Tube_pressure_21 ?_
  refine lv_iconst (v := 2) hx hb d_Tube_pressure_24 (by decide) ?_
  refine q_aald (k := 2) (r := (ta 5)) 2 hx hb hE hP rfl rfl (by decide) (by decide) rfl d_Tube_pressure_25 ?_
  refine lv_iload_n hx hb d_Tube_pressure_26 rfl (lv_at hl 1 rfl) ?_
  refine q_lald (k := k) 5 hx hb hE hP rfl rfl (by omega) (by decide) d_Tube_pressure_27 ?_
  refine cRS (As := [.long (mM k), .long (mP k), .long (mE k)]) (rest := [.ref (ta 1)]) K_Laws_within x_471 hx hb hml hown hts hE hV hS (c_Laws_within l D ct st (mM k) (mP k) (mE k) (hm)) (fun k q h => by simp at h) rfl hl.1 rfl (Nat.le_of_ble_eq_true rfl) d_Tube_pressure_28 (Nat.le_of_ble_eq_true rfl) (Nat.le_of_ble_eq_true rfl) ⟨Nat.zero_le _, Nat.zero_le _⟩ ?_
  refine cRV (As := [.long (w_within (mM k) (mP k) (mE k))]) (rest := []) (q9 := 1) (ci := 1) K_Laws_pressure x_472 hx hb hml hown hts hE hV hS (c_Laws_pressure l D ct st (ta 1) g ign part heat (w_within (mM k) (mP k) (mE k)) (hg)) (hP.sub (ws' := [((ta 1), .inr (1, [.int (nI g), .int ign, .int part, .int heat]))]) [1] rfl) rfl hP rfl rfl hl.1 rfl (Nat.le_of_ble_eq_true rfl) d_Tube_pressure_31 (Nat.le_of_ble_eq_true rfl) (Nat.le_of_ble_eq_true rfl) ⟨Nat.zero_le _, Nat.zero_le _⟩ ?_
  exact rR_l hx hb hr hlk d_Tube_pressure_34 (rfl)
set_option maxHeartbeats 4000000 in
set_option maxRecDepth 100000 in
theorem c_Tube_tells_0 (l : Launch) (D : va_G) (ct : Nat → ClassId) (st : Nat → Nat) (ta : Nat → Nat) (g : Nat) (ign : Int32) (part : Int32) (heat : Int32) (n : Nat) (lft : Nat) (rgt : Nat) (ns : Nat) (mM : Nat → Int64) (mP : Nat → Int64) (mE : Nat → Int64) (mF : Nat → Int64) (td : Nat → Int64) (cm : Nat → Int64) (gr : Nat → Int64) (gs : Nat → Int32) (k : Nat) (hg : g < 3) (hk : k < 32) (hm : 1 ≤ (mM k).toInt ∧ (mM k).toInt ≤ 1000000) (hpr : 0 ≤ (w_pr g mM mP mE k).toInt ∧ (w_pr g mM mP mE k).toInt ≤ 1000000000) : Met l y_Tube_tells (wsy y_Tube_tells b_Tube_tells 5 (some .long)) (k2_rm 0 0) (PcR D ct st [.ref (ta 0), .int (nI k), .int 0] [((ta 0), .inr (7, [.ref (ta 1), .int (nI n), .int (nI lft), .int (nI rgt), .int (nI ns), .ref (ta 2), .ref (ta 7), .ref (ta 8), .ref (ta 9), .ref (ta 10)])), ((ta 1), .inr (1, [.int (nI g), .int ign, .int part, .int heat])), ((ta 2), .inl (ct 4, 4, .inr (.inr (.inr (.inr (rw4 (ta 3) (ta 4) (ta 5) (ta 6))))))), ((ta 3), .inl (ct 1, 32, .inr (.inl mM))), ((ta 4), .inl (ct 1, 32, .inr (.inl mP))), ((ta 5), .inl (ct 1, 32, .inr (.inl mE))), ((ta 6), .inl (ct 1, 32, .inr (.inl mF))), ((ta 7), .inl (ct 1, 4, .inr (.inl td))), ((ta 8), .inl (ct 1, 6, .inr (.inl cm))), ((ta 9), .inl (ct 1, 32, .inr (.inl gr))), ((ta 10), .inl (ct 0, 32, .inl gs))]) (k2_QcV (.long (mM k))) 0 0 (fun _ => False) := by
  refine enterR (by decide) (Nat.le_of_ble_eq_true rfl) ?_
  intro p e s m args below meth c ls hx hb hr hml hown hts hlk hP hE hV hS hl
  have hl : lv_has ls 5 [(0, .ref (ta 0)), (1, .int (nI k)), (2, .int 0)] := hl
  refine lv_aload_n hx hb d_Tube_tells_0 rfl (lv_at hl 0 rfl) ?_
  refine q_get 0 5 i_Tube rfl hx hb hts hown hE hP rfl (by decide) x_90 rfl d_Tube_tells_1 ?_
  refine lv_iconst (v := 0) hx hb d_Tube_tells_4 (by decide) ?_
  refine q_aald (k := 0) (r := (ta 3)) 2 hx hb hE hP rfl rfl (by decide) (by decide) rfl d_Tube_tells_5 ?_
  refine lv_iload_n hx hb d_Tube_tells_6 rfl (lv_at hl 1 rfl) ?_
  refine q_lald (k := k) 3 hx hb hE hP rfl rfl (by omega) (by decide) d_Tube_tells_7 ?_
  refine lv_lstore_n (lv' := [(3, .long (mM k)), (0, .ref (ta 0)), (1, .int (nI k)), (2, .int 0)]) hx hb d_Tube_tells_8 rfl hl (by decide) rfl (fun ls hl => ?_)
  refine lv_iload_n hx hb d_Tube_tells_9 rfl (lv_at hl 3 rfl) ?_
  refine lv_tableOut (tgt := 83) hx hb d_Tube_tells_10 (by decide) (by decide) ?_
  refine lv_aload_n hx hb d_Tube_tells_83 rfl (lv_at hl 1 rfl) ?_
  refine q_get 0 5 i_Tube rfl hx hb hts hown hE hP rfl (by decide) x_90 rfl d_Tube_tells_84 ?_
  refine lv_iload_n hx hb d_Tube_tells_87 rfl (lv_at hl 3 rfl) ?_
  refine q_aald (k := 0) (r := (ta 3)) 2 hx hb hE hP rfl rfl (by decide) (by decide) rfl d_Tube_tells_88 ?_
  refine lv_iload_n hx hb d_Tube_tells_89 rfl (lv_at hl 2 rfl) ?_
  refine q_lald (k := k) 3 hx hb hE hP rfl rfl (by omega) (by decide) d_Tube_tells_90 ?_
  exact rR_l hx hb hr hlk d_Tube_tells_91 (rfl)
set_option maxHeartbeats 4000000 in
set_option maxRecDepth 100000 in
theorem c_Tube_tells_1 (l : Launch) (D : va_G) (ct : Nat → ClassId) (st : Nat → Nat) (ta : Nat → Nat) (g : Nat) (ign : Int32) (part : Int32) (heat : Int32) (n : Nat) (lft : Nat) (rgt : Nat) (ns : Nat) (mM : Nat → Int64) (mP : Nat → Int64) (mE : Nat → Int64) (mF : Nat → Int64) (td : Nat → Int64) (cm : Nat → Int64) (gr : Nat → Int64) (gs : Nat → Int32) (k : Nat) (hg : g < 3) (hk : k < 32) (hm : 1 ≤ (mM k).toInt ∧ (mM k).toInt ≤ 1000000) (hpr : 0 ≤ (w_pr g mM mP mE k).toInt ∧ (w_pr g mM mP mE k).toInt ≤ 1000000000) : Met l y_Tube_tells (wsy y_Tube_tells b_Tube_tells 5 (some .long)) (k2_rm 0 0) (PcR D ct st [.ref (ta 0), .int (nI k), .int 1] [((ta 0), .inr (7, [.ref (ta 1), .int (nI n), .int (nI lft), .int (nI rgt), .int (nI ns), .ref (ta 2), .ref (ta 7), .ref (ta 8), .ref (ta 9), .ref (ta 10)])), ((ta 1), .inr (1, [.int (nI g), .int ign, .int part, .int heat])), ((ta 2), .inl (ct 4, 4, .inr (.inr (.inr (.inr (rw4 (ta 3) (ta 4) (ta 5) (ta 6))))))), ((ta 3), .inl (ct 1, 32, .inr (.inl mM))), ((ta 4), .inl (ct 1, 32, .inr (.inl mP))), ((ta 5), .inl (ct 1, 32, .inr (.inl mE))), ((ta 6), .inl (ct 1, 32, .inr (.inl mF))), ((ta 7), .inl (ct 1, 4, .inr (.inl td))), ((ta 8), .inl (ct 1, 6, .inr (.inl cm))), ((ta 9), .inl (ct 1, 32, .inr (.inl gr))), ((ta 10), .inl (ct 0, 32, .inl gs))]) (k2_QcV (.long (mP k))) 0 0 (fun _ => False) := by
  refine enterR (by decide) (Nat.le_of_ble_eq_true rfl) ?_
  intro p e s m args below meth c ls hx hb hr hml hown hts hlk hP hE hV hS hl
  have hl : lv_has ls 5 [(0, .ref (ta 0)), (1, .int (nI k)), (2, .int 1)] := hl
  refine lv_aload_n hx hb d_Tube_tells_0 rfl (lv_at hl 0 rfl) ?_
  refine q_get 0 5 i_Tube rfl hx hb hts hown hE hP rfl (by decide) x_90 rfl d_Tube_tells_1 ?_
  refine lv_iconst (v := 0) hx hb d_Tube_tells_4 (by decide) ?_
  refine q_aald (k := 0) (r := (ta 3)) 2 hx hb hE hP rfl rfl (by decide) (by decide) rfl d_Tube_tells_5 ?_
  refine lv_iload_n hx hb d_Tube_tells_6 rfl (lv_at hl 1 rfl) ?_
  refine q_lald (k := k) 3 hx hb hE hP rfl rfl (by omega) (by decide) d_Tube_tells_7 ?_
  refine lv_lstore_n (lv' := [(3, .long (mM k)), (0, .ref (ta 0)), (1, .int (nI k)), (2, .int 1)]) hx hb d_Tube_tells_8 rfl hl (by decide) rfl (fun ls hl => ?_)
  refine lv_iload_n hx hb d_Tube_tells_9 rfl (lv_at hl 3 rfl) ?_
  refine lv_tableOut (tgt := 83) hx hb d_Tube_tells_10 (by decide) (by decide) ?_
  refine lv_aload_n hx hb d_Tube_tells_83 rfl (lv_at hl 1 rfl) ?_
  refine q_get 0 5 i_Tube rfl hx hb hts hown hE hP rfl (by decide) x_90 rfl d_Tube_tells_84 ?_
  refine lv_iload_n hx hb d_Tube_tells_87 rfl (lv_at hl 3 rfl) ?_
  refine q_aald (k := 1) (r := (ta 4)) 2 hx hb hE hP rfl rfl (by decide) (by decide) rfl d_Tube_tells_88 ?_
  refine lv_iload_n hx hb d_Tube_tells_89 rfl (lv_at hl 2 rfl) ?_
  refine q_lald (k := k) 4 hx hb hE hP rfl rfl (by omega) (by decide) d_Tube_tells_90 ?_
  exact rR_l hx hb hr hlk d_Tube_tells_91 (rfl)
set_option maxHeartbeats 4000000 in
set_option maxRecDepth 100000 in
theorem c_Tube_tells_2 (l : Launch) (D : va_G) (ct : Nat → ClassId) (st : Nat → Nat) (ta : Nat → Nat) (g : Nat) (ign : Int32) (part : Int32) (heat : Int32) (n : Nat) (lft : Nat) (rgt : Nat) (ns : Nat) (mM : Nat → Int64) (mP : Nat → Int64) (mE : Nat → Int64) (mF : Nat → Int64) (td : Nat → Int64) (cm : Nat → Int64) (gr : Nat → Int64) (gs : Nat → Int32) (k : Nat) (hg : g < 3) (hk : k < 32) (hm : 1 ≤ (mM k).toInt ∧ (mM k).toInt ≤ 1000000) (hpr : 0 ≤ (w_pr g mM mP mE k).toInt ∧ (w_pr g mM mP mE k).toInt ≤ 1000000000) : Met l y_Tube_tells (wsy y_Tube_tells b_Tube_tells 5 (some .long)) (k2_rm 0 0) (PcR D ct st [.ref (ta 0), .int (nI k), .int 2] [((ta 0), .inr (7, [.ref (ta 1), .int (nI n), .int (nI lft), .int (nI rgt), .int (nI ns), .ref (ta 2), .ref (ta 7), .ref (ta 8), .ref (ta 9), .ref (ta 10)])), ((ta 1), .inr (1, [.int (nI g), .int ign, .int part, .int heat])), ((ta 2), .inl (ct 4, 4, .inr (.inr (.inr (.inr (rw4 (ta 3) (ta 4) (ta 5) (ta 6))))))), ((ta 3), .inl (ct 1, 32, .inr (.inl mM))), ((ta 4), .inl (ct 1, 32, .inr (.inl mP))), ((ta 5), .inl (ct 1, 32, .inr (.inl mE))), ((ta 6), .inl (ct 1, 32, .inr (.inl mF))), ((ta 7), .inl (ct 1, 4, .inr (.inl td))), ((ta 8), .inl (ct 1, 6, .inr (.inl cm))), ((ta 9), .inl (ct 1, 32, .inr (.inl gr))), ((ta 10), .inl (ct 0, 32, .inl gs))]) (k2_QcV (.long (mE k))) 0 0 (fun _ => False) := by
  refine enterR (by decide) (Nat.le_of_ble_eq_true rfl) ?_
  intro p e s m args below meth c ls hx hb hr hml hown hts hlk hP hE hV hS hl
  have hl : lv_has ls 5 [(0, .ref (ta 0)), (1, .int (nI k)), (2, .int 2)] := hl
  refine lv_aload_n hx hb d_Tube_tells_0 rfl (lv_at hl 0 rfl) ?_
  refine q_get 0 5 i_Tube rfl hx hb hts hown hE hP rfl (by decide) x_90 rfl d_Tube_tells_1 ?_
  refine lv_iconst (v := 0) hx hb d_Tube_tells_4 (by decide) ?_
  refine q_aald (k := 0) (r := (ta 3)) 2 hx hb hE hP rfl rfl (by decide) (by decide) rfl d_Tube_tells_5 ?_
  refine lv_iload_n hx hb d_Tube_tells_6 rfl (lv_at hl 1 rfl) ?_
  refine q_lald (k := k) 3 hx hb hE hP rfl rfl (by omega) (by decide) d_Tube_tells_7 ?_
  refine lv_lstore_n (lv' := [(3, .long (mM k)), (0, .ref (ta 0)), (1, .int (nI k)), (2, .int 2)]) hx hb d_Tube_tells_8 rfl hl (by decide) rfl (fun ls hl => ?_)
  refine lv_iload_n hx hb d_Tube_tells_9 rfl (lv_at hl 3 rfl) ?_
  refine lv_tableOut (tgt := 83) hx hb d_Tube_tells_10 (by decide) (by decide) ?_
  refine lv_aload_n hx hb d_Tube_tells_83 rfl (lv_at hl 1 rfl) ?_
  refine q_get 0 5 i_Tube rfl hx hb hts hown hE hP rfl (by decide) x_90 rfl d_Tube_tells_84 ?_
  refine lv_iload_n hx hb d_Tube_tells_87 rfl (lv_at hl 3 rfl) ?_
  refine q_aald (k := 2) (r := (ta 5)) 2 hx hb hE hP rfl rfl (by decide) (by decide) rfl d_Tube_tells_88 ?_
  refine lv_iload_n hx hb d_Tube_tells_89 rfl (lv_at hl 2 rfl) ?_
  refine q_lald (k := k) 5 hx hb hE hP rfl rfl (by omega) (by decide) d_Tube_tells_90 ?_
  exact rR_l hx hb hr hlk d_Tube_tells_91 (rfl)
set_option maxHeartbeats 4000000 in
set_option maxRecDepth 100000 in
theorem c_Tube_tells_3 (l : Launch) (D : va_G) (ct : Nat → ClassId) (st : Nat → Nat) (ta : Nat → Nat) (g : Nat) (ign : Int32) (part : Int32) (heat : Int32) (n : Nat) (lft : Nat) (rgt : Nat) (ns : Nat) (mM : Nat → Int64) (mP : Nat → Int64) (mE : Nat → Int64) (mF : Nat → Int64) (td : Nat → Int64) (cm : Nat → Int64) (gr : Nat → Int64) (gs : Nat → Int32) (k : Nat) (hg : g < 3) (hk : k < 32) (hm : 1 ≤ (mM k).toInt ∧ (mM k).toInt ≤ 1000000) (hpr : 0 ≤ (w_pr g mM mP mE k).toInt ∧ (w_pr g mM mP mE k).toInt ≤ 1000000000) : Met l y_Tube_tells (wsy y_Tube_tells b_Tube_tells 5 (some .long)) (k2_rm 0 0) (PcR D ct st [.ref (ta 0), .int (nI k), .int 3] [((ta 0), .inr (7, [.ref (ta 1), .int (nI n), .int (nI lft), .int (nI rgt), .int (nI ns), .ref (ta 2), .ref (ta 7), .ref (ta 8), .ref (ta 9), .ref (ta 10)])), ((ta 1), .inr (1, [.int (nI g), .int ign, .int part, .int heat])), ((ta 2), .inl (ct 4, 4, .inr (.inr (.inr (.inr (rw4 (ta 3) (ta 4) (ta 5) (ta 6))))))), ((ta 3), .inl (ct 1, 32, .inr (.inl mM))), ((ta 4), .inl (ct 1, 32, .inr (.inl mP))), ((ta 5), .inl (ct 1, 32, .inr (.inl mE))), ((ta 6), .inl (ct 1, 32, .inr (.inl mF))), ((ta 7), .inl (ct 1, 4, .inr (.inl td))), ((ta 8), .inl (ct 1, 6, .inr (.inl cm))), ((ta 9), .inl (ct 1, 32, .inr (.inl gr))), ((ta 10), .inl (ct 0, 32, .inl gs))]) (k2_QcV (.long (mF k))) 0 0 (fun _ => False) := by
  refine enterR (by decide) (Nat.le_of_ble_eq_true rfl) ?_
  intro p e s m args below meth c ls hx hb hr hml hown hts hlk hP hE hV hS hl
  have hl : lv_has ls 5 [(0, .ref (ta 0)), (1, .int (nI k)), (2, .int 3)] := hl
  refine lv_aload_n hx hb d_Tube_tells_0 rfl (lv_at hl 0 rfl) ?_
  refine q_get 0 5 i_Tube rfl hx hb hts hown hE hP rfl (by decide) x_90 rfl d_Tube_tells_1 ?_
  refine lv_iconst (v := 0) hx hb d_Tube_tells_4 (by decide) ?_
  refine q_aald (k := 0) (r := (ta 3)) 2 hx hb hE hP rfl rfl (by decide) (by decide) rfl d_Tube_tells_5 ?_
  refine lv_iload_n hx hb d_Tube_tells_6 rfl (lv_at hl 1 rfl) ?_
  refine q_lald (k := k) 3 hx hb hE hP rfl rfl (by omega) (by decide) d_Tube_tells_7 ?_
  refine lv_lstore_n (lv' := [(3, .long (mM k)), (0, .ref (ta 0)), (1, .int (nI k)), (2, .int 3)]) hx hb d_Tube_tells_8 rfl hl (by decide) rfl (fun ls hl => ?_)
  refine lv_iload_n hx hb d_Tube_tells_9 rfl (lv_at hl 3 rfl) ?_
  refine lv_tableOut (tgt := 83) hx hb d_Tube_tells_10 (by decide) (by decide) ?_
  refine lv_aload_n hx hb d_Tube_tells_83 rfl (lv_at hl 1 rfl) ?_
  refine q_get 0 5 i_Tube rfl hx hb hts hown hE hP rfl (by decide) x_90 rfl d_Tube_tells_84 ?_
  refine lv_iload_n hx hb d_Tube_tells_87 rfl (lv_at hl 3 rfl) ?_
  refine q_aald (k := 3) (r := (ta 6)) 2 hx hb hE hP rfl rfl (by decide) (by decide) rfl d_Tube_tells_88 ?_
  refine lv_iload_n hx hb d_Tube_tells_89 rfl (lv_at hl 2 rfl) ?_
  refine q_lald (k := k) 6 hx hb hE hP rfl rfl (by omega) (by decide) d_Tube_tells_90 ?_
  exact rR_l hx hb hr hlk d_Tube_tells_91 (rfl)
set_option maxHeartbeats 4000000 in
set_option maxRecDepth 100000 in
theorem c_Tube_tells_4 (l : Launch) (D : va_G) (ct : Nat → ClassId) (st : Nat → Nat) (ta : Nat → Nat) (g : Nat) (ign : Int32) (part : Int32) (heat : Int32) (n : Nat) (lft : Nat) (rgt : Nat) (ns : Nat) (mM : Nat → Int64) (mP : Nat → Int64) (mE : Nat → Int64) (mF : Nat → Int64) (td : Nat → Int64) (cm : Nat → Int64) (gr : Nat → Int64) (gs : Nat → Int32) (k : Nat) (hg : g < 3) (hk : k < 32) (hm : 1 ≤ (mM k).toInt ∧ (mM k).toInt ≤ 1000000) (hpr : 0 ≤ (w_pr g mM mP mE k).toInt ∧ (w_pr g mM mP mE k).toInt ≤ 1000000000) : Met l y_Tube_tells (wsy y_Tube_tells b_Tube_tells 5 (some .long)) (k2_rm 3 71) (PcR D ct st [.ref (ta 0), .int (nI k), .int 4] [((ta 0), .inr (7, [.ref (ta 1), .int (nI n), .int (nI lft), .int (nI rgt), .int (nI ns), .ref (ta 2), .ref (ta 7), .ref (ta 8), .ref (ta 9), .ref (ta 10)])), ((ta 1), .inr (1, [.int (nI g), .int ign, .int part, .int heat])), ((ta 2), .inl (ct 4, 4, .inr (.inr (.inr (.inr (rw4 (ta 3) (ta 4) (ta 5) (ta 6))))))), ((ta 3), .inl (ct 1, 32, .inr (.inl mM))), ((ta 4), .inl (ct 1, 32, .inr (.inl mP))), ((ta 5), .inl (ct 1, 32, .inr (.inl mE))), ((ta 6), .inl (ct 1, 32, .inr (.inl mF))), ((ta 7), .inl (ct 1, 4, .inr (.inl td))), ((ta 8), .inl (ct 1, 6, .inr (.inl cm))), ((ta 9), .inl (ct 1, 32, .inr (.inl gr))), ((ta 10), .inl (ct 0, 32, .inl gs))]) (k2_QcV (.long (w_pr g mM mP mE k))) 0 0 (fun _ => False) := by
  refine enterR (by decide) (Nat.le_of_ble_eq_true rfl) ?_
  intro p e s m args below meth c ls hx hb hr hml hown hts hlk hP hE hV hS hl
  have hl : lv_has ls 5 [(0, .ref (ta 0)), (1, .int (nI k)), (2, .int 4)] := hl
  refine lv_aload_n hx hb d_Tube_tells_0 rfl (lv_at hl 0 rfl) ?_
  refine q_get 0 5 i_Tube rfl hx hb hts hown hE hP rfl (by decide) x_90 rfl d_Tube_tells_1 ?_
  refine lv_iconst (v := 0) hx hb d_Tube_tells_4 (by decide) ?_
  refine q_aald (k := 0) (r := (ta 3)) 2 hx hb hE hP rfl rfl (by decide) (by decide) rfl d_Tube_tells_5 ?_
  refine lv_iload_n hx hb d_Tube_tells_6 rfl (lv_at hl 1 rfl) ?_
  refine q_lald (k := k) 3 hx hb hE hP rfl rfl (by omega) (by decide) d_Tube_tells_7 ?_
  refine lv_lstore_n (lv' := [(3, .long (mM k)), (0, .ref (ta 0)), (1, .int (nI k)), (2, .int 4)]) hx hb d_Tube_tells_8 rfl hl (by decide) rfl (fun ls hl => ?_)
  refine lv_iload_n hx hb d_Tube_tells_9 rfl (lv_at hl 3 rfl) ?_
  refine lv_tableIn (tgt := 40) hx hb d_Tube_tells_10 (by decide) (by decide) (by rfl) (by decide) ?_
  refine lv_aload_n hx hb d_Tube_tells_40 rfl (lv_at hl 1 rfl) ?_
  refine lv_iload_n hx hb d_Tube_tells_41 rfl (lv_at hl 2 rfl) ?_
  refine cRV (As := [.int (nI k)]) (rest := []) (q9 := 0) (ci := 7) K_Tube_pressure x_596 hx hb hml hown hts hE hV hS (c_Tube_pressure l D ct st ta g ign part heat n lft rgt ns mM mP mE mF td cm gr gs k (by omega) (by omega) (hm)) hP rfl hP rfl rfl hl.1 rfl (Nat.le_of_ble_eq_true rfl) d_Tube_tells_42 (Nat.le_of_ble_eq_true rfl) (Nat.le_of_ble_eq_true rfl) ⟨Nat.zero_le _, Nat.zero_le _⟩ ?_
  exact rR_l hx hb hr hlk d_Tube_tells_45 (rfl)
set_option maxHeartbeats 4000000 in
set_option maxRecDepth 100000 in
theorem c_Tube_tells_5 (l : Launch) (D : va_G) (ct : Nat → ClassId) (st : Nat → Nat) (ta : Nat → Nat) (g : Nat) (ign : Int32) (part : Int32) (heat : Int32) (n : Nat) (lft : Nat) (rgt : Nat) (ns : Nat) (mM : Nat → Int64) (mP : Nat → Int64) (mE : Nat → Int64) (mF : Nat → Int64) (td : Nat → Int64) (cm : Nat → Int64) (gr : Nat → Int64) (gs : Nat → Int32) (k : Nat) (hg : g < 3) (hk : k < 32) (hm : 1 ≤ (mM k).toInt ∧ (mM k).toInt ≤ 1000000) (hpr : 0 ≤ (w_pr g mM mP mE k).toInt ∧ (w_pr g mM mP mE k).toInt ≤ 1000000000) : Met l y_Tube_tells (wsy y_Tube_tells b_Tube_tells 5 (some .long)) (k2_rm 2 48) (PcR D ct st [.ref (ta 0), .int (nI k), .int 5] [((ta 0), .inr (7, [.ref (ta 1), .int (nI n), .int (nI lft), .int (nI rgt), .int (nI ns), .ref (ta 2), .ref (ta 7), .ref (ta 8), .ref (ta 9), .ref (ta 10)])), ((ta 1), .inr (1, [.int (nI g), .int ign, .int part, .int heat])), ((ta 2), .inl (ct 4, 4, .inr (.inr (.inr (.inr (rw4 (ta 3) (ta 4) (ta 5) (ta 6))))))), ((ta 3), .inl (ct 1, 32, .inr (.inl mM))), ((ta 4), .inl (ct 1, 32, .inr (.inl mP))), ((ta 5), .inl (ct 1, 32, .inr (.inl mE))), ((ta 6), .inl (ct 1, 32, .inr (.inl mF))), ((ta 7), .inl (ct 1, 4, .inr (.inl td))), ((ta 8), .inl (ct 1, 6, .inr (.inl cm))), ((ta 9), .inl (ct 1, 32, .inr (.inl gr))), ((ta 10), .inl (ct 0, 32, .inl gs))]) (k2_QcV (.long (w_sp mM mP k))) 0 0 (fun _ => False) := by
  refine enterR (by decide) (Nat.le_of_ble_eq_true rfl) ?_
  intro p e s m args below meth c ls hx hb hr hml hown hts hlk hP hE hV hS hl
  have hl : lv_has ls 5 [(0, .ref (ta 0)), (1, .int (nI k)), (2, .int 5)] := hl
  refine lv_aload_n hx hb d_Tube_tells_0 rfl (lv_at hl 0 rfl) ?_
  refine q_get 0 5 i_Tube rfl hx hb hts hown hE hP rfl (by decide) x_90 rfl d_Tube_tells_1 ?_
  refine lv_iconst (v := 0) hx hb d_Tube_tells_4 (by decide) ?_
  refine q_aald (k := 0) (r := (ta 3)) 2 hx hb hE hP rfl rfl (by decide) (by decide) rfl d_Tube_tells_5 ?_
  refine lv_iload_n hx hb d_Tube_tells_6 rfl (lv_at hl 1 rfl) ?_
  refine q_lald (k := k) 3 hx hb hE hP rfl rfl (by omega) (by decide) d_Tube_tells_7 ?_
  refine lv_lstore_n (lv' := [(3, .long (mM k)), (0, .ref (ta 0)), (1, .int (nI k)), (2, .int 5)]) hx hb d_Tube_tells_8 rfl hl (by decide) rfl (fun ls hl => ?_)
  refine lv_iload_n hx hb d_Tube_tells_9 rfl (lv_at hl 3 rfl) ?_
  refine lv_tableIn (tgt := 46) hx hb d_Tube_tells_10 (by decide) (by decide) (by rfl) (by decide) ?_
  refine lv_lload_n hx hb d_Tube_tells_46 rfl (lv_at hl 0 rfl) ?_
  refine lv_aload_n hx hb d_Tube_tells_47 rfl (lv_at hl 1 rfl) ?_
  refine q_get 0 5 i_Tube rfl hx hb hts hown hE hP rfl (by decide) x_90 rfl d_Tube_tells_48 ?_
  refine lv_iconst (v := 1) hx hb d_Tube_tells_51 (by decide) ?_
  refine q_aald (k := 1) (r := (ta 4)) 2 hx hb hE hP rfl rfl (by decide) (by decide) rfl d_Tube_tells_52 ?_
  refine lv_iload_n hx hb d_Tube_tells_53 rfl (lv_at hl 2 rfl) ?_
  refine q_lald (k := k) 4 hx hb hE hP rfl rfl (by omega) (by decide) d_Tube_tells_54 ?_
  refine cRS (As := [.long (mM k), .long (mP k)]) (rest := []) K_Laws_speed x_597 hx hb hml hown hts hE hV hS (c_Laws_speed l D ct st (mM k) (mP k) (hm.1)) (fun k q h => by simp at h) rfl hl.1 rfl (Nat.le_of_ble_eq_true rfl) d_Tube_tells_55 (Nat.le_of_ble_eq_true rfl) (Nat.le_of_ble_eq_true rfl) ⟨Nat.zero_le _, Nat.zero_le _⟩ ?_
  exact rR_l hx hb hr hlk d_Tube_tells_58 (rfl)
set_option maxHeartbeats 4000000 in
set_option maxRecDepth 100000 in
theorem c_Tube_tells_6 (l : Launch) (D : va_G) (ct : Nat → ClassId) (st : Nat → Nat) (ta : Nat → Nat) (g : Nat) (ign : Int32) (part : Int32) (heat : Int32) (n : Nat) (lft : Nat) (rgt : Nat) (ns : Nat) (mM : Nat → Int64) (mP : Nat → Int64) (mE : Nat → Int64) (mF : Nat → Int64) (td : Nat → Int64) (cm : Nat → Int64) (gr : Nat → Int64) (gs : Nat → Int32) (k : Nat) (hg : g < 3) (hk : k < 32) (hm : 1 ≤ (mM k).toInt ∧ (mM k).toInt ≤ 1000000) (hpr : 0 ≤ (w_pr g mM mP mE k).toInt ∧ (w_pr g mM mP mE k).toInt ≤ 1000000000) : Met l y_Tube_tells (wsy y_Tube_tells b_Tube_tells 5 (some .long)) (k2_rm 3 71) (PcR D ct st [.ref (ta 0), .int (nI k), .int 6] [((ta 0), .inr (7, [.ref (ta 1), .int (nI n), .int (nI lft), .int (nI rgt), .int (nI ns), .ref (ta 2), .ref (ta 7), .ref (ta 8), .ref (ta 9), .ref (ta 10)])), ((ta 1), .inr (1, [.int (nI g), .int ign, .int part, .int heat])), ((ta 2), .inl (ct 4, 4, .inr (.inr (.inr (.inr (rw4 (ta 3) (ta 4) (ta 5) (ta 6))))))), ((ta 3), .inl (ct 1, 32, .inr (.inl mM))), ((ta 4), .inl (ct 1, 32, .inr (.inl mP))), ((ta 5), .inl (ct 1, 32, .inr (.inl mE))), ((ta 6), .inl (ct 1, 32, .inr (.inl mF))), ((ta 7), .inl (ct 1, 4, .inr (.inl td))), ((ta 8), .inl (ct 1, 6, .inr (.inl cm))), ((ta 9), .inl (ct 1, 32, .inr (.inl gr))), ((ta 10), .inl (ct 0, 32, .inl gs))]) (k2_QcV (.long (w_so g mM mP mE k))) 0 0 (fun _ => False) := by
  refine enterR (by decide) (Nat.le_of_ble_eq_true rfl) ?_
  intro p e s m args below meth c ls hx hb hr hml hown hts hlk hP hE hV hS hl
  have hl : lv_has ls 5 [(0, .ref (ta 0)), (1, .int (nI k)), (2, .int 6)] := hl
  refine lv_aload_n hx hb d_Tube_tells_0 rfl (lv_at hl 0 rfl) ?_
  refine q_get 0 5 i_Tube rfl hx hb hts hown hE hP rfl (by decide) x_90 rfl d_Tube_tells_1 ?_
  refine lv_iconst (v := 0) hx hb d_Tube_tells_4 (by decide) ?_
  refine q_aald (k := 0) (r := (ta 3)) 2 hx hb hE hP rfl rfl (by decide) (by decide) rfl d_Tube_tells_5 ?_
  refine lv_iload_n hx hb d_Tube_tells_6 rfl (lv_at hl 1 rfl) ?_
  refine q_lald (k := k) 3 hx hb hE hP rfl rfl (by omega) (by decide) d_Tube_tells_7 ?_
  refine lv_lstore_n (lv' := [(3, .long (mM k)), (0, .ref (ta 0)), (1, .int (nI k)), (2, .int 6)]) hx hb d_Tube_tells_8 rfl hl (by decide) rfl (fun ls hl => ?_)
  refine lv_iload_n hx hb d_Tube_tells_9 rfl (lv_at hl 3 rfl) ?_
  refine lv_tableIn (tgt := 59) hx hb d_Tube_tells_10 (by decide) (by decide) (by rfl) (by decide) ?_
  refine lv_aload_n hx hb d_Tube_tells_59 rfl (lv_at hl 1 rfl) ?_
  refine q_get 0 0 i_Tube rfl hx hb hts hown hE hP rfl (by decide) x_78 rfl d_Tube_tells_60 ?_
  refine lv_lload_n hx hb d_Tube_tells_63 rfl (lv_at hl 0 rfl) ?_
  refine lv_aload_n hx hb d_Tube_tells_64 rfl (lv_at hl 1 rfl) ?_
  refine lv_iload_n hx hb d_Tube_tells_65 rfl (lv_at hl 2 rfl) ?_
  refine cRV (As := [.int (nI k)]) (rest := [.long (mM k), .ref (ta 1)]) (q9 := 0) (ci := 7) K_Tube_pressure x_596 hx hb hml hown hts hE hV hS (c_Tube_pressure l D ct st ta g ign part heat n lft rgt ns mM mP mE mF td cm gr gs k (by omega) (by omega) (hm)) hP rfl hP rfl rfl hl.1 rfl (Nat.le_of_ble_eq_true rfl) d_Tube_tells_66 (Nat.le_of_ble_eq_true rfl) (Nat.le_of_ble_eq_true rfl) ⟨Nat.zero_le _, Nat.zero_le _⟩ ?_
  refine cRV (As := [.long (mM k), .long (w_pr g mM mP mE k)]) (rest := []) (q9 := 1) (ci := 1) K_Laws_sound x_598 hx hb hml hown hts hE hV hS (c_Laws_sound l D ct st (ta 1) g ign part heat (mM k) (w_pr g mM mP mE k) (by omega) (hm.1) (hpr)) (hP.sub (ws' := [((ta 1), .inr (1, [.int (nI g), .int ign, .int part, .int heat]))]) [1] rfl) rfl hP rfl rfl hl.1 rfl (Nat.le_of_ble_eq_true rfl) d_Tube_tells_69 (Nat.le_of_ble_eq_true rfl) (Nat.le_of_ble_eq_true rfl) ⟨Nat.zero_le _, Nat.zero_le _⟩ ?_
  exact rR_l hx hb hr hlk d_Tube_tells_72 (rfl)
set_option maxHeartbeats 4000000 in
set_option maxRecDepth 100000 in
theorem c_Tube_tells_7 (l : Launch) (D : va_G) (ct : Nat → ClassId) (st : Nat → Nat) (ta : Nat → Nat) (g : Nat) (ign : Int32) (part : Int32) (heat : Int32) (n : Nat) (lft : Nat) (rgt : Nat) (ns : Nat) (mM : Nat → Int64) (mP : Nat → Int64) (mE : Nat → Int64) (mF : Nat → Int64) (td : Nat → Int64) (cm : Nat → Int64) (gr : Nat → Int64) (gs : Nat → Int32) (k : Nat) (hg : g < 3) (hk : k < 32) (hm : 1 ≤ (mM k).toInt ∧ (mM k).toInt ≤ 1000000) (hpr : 0 ≤ (w_pr g mM mP mE k).toInt ∧ (w_pr g mM mP mE k).toInt ≤ 1000000000) : Met l y_Tube_tells (wsy y_Tube_tells b_Tube_tells 5 (some .long)) (k2_rm 3 71) (PcR D ct st [.ref (ta 0), .int (nI k), .int 7] [((ta 0), .inr (7, [.ref (ta 1), .int (nI n), .int (nI lft), .int (nI rgt), .int (nI ns), .ref (ta 2), .ref (ta 7), .ref (ta 8), .ref (ta 9), .ref (ta 10)])), ((ta 1), .inr (1, [.int (nI g), .int ign, .int part, .int heat])), ((ta 2), .inl (ct 4, 4, .inr (.inr (.inr (.inr (rw4 (ta 3) (ta 4) (ta 5) (ta 6))))))), ((ta 3), .inl (ct 1, 32, .inr (.inl mM))), ((ta 4), .inl (ct 1, 32, .inr (.inl mP))), ((ta 5), .inl (ct 1, 32, .inr (.inl mE))), ((ta 6), .inl (ct 1, 32, .inr (.inl mF))), ((ta 7), .inl (ct 1, 4, .inr (.inl td))), ((ta 8), .inl (ct 1, 6, .inr (.inl cm))), ((ta 9), .inl (ct 1, 32, .inr (.inl gr))), ((ta 10), .inl (ct 0, 32, .inl gs))]) (k2_QcV (.long (fd (100 * w_pr g mM mP mE k) (mM k)))) 0 0 (fun _ => False) := by
  refine enterR (by decide) (Nat.le_of_ble_eq_true rfl) ?_
  intro p e s m args below meth c ls hx hb hr hml hown hts hlk hP hE hV hS hl
  have hl : lv_has ls 5 [(0, .ref (ta 0)), (1, .int (nI k)), (2, .int 7)] := hl
  refine lv_aload_n hx hb d_Tube_tells_0 rfl (lv_at hl 0 rfl) ?_
  refine q_get 0 5 i_Tube rfl hx hb hts hown hE hP rfl (by decide) x_90 rfl d_Tube_tells_1 ?_
  refine lv_iconst (v := 0) hx hb d_Tube_tells_4 (by decide) ?_
  refine q_aald (k := 0) (r := (ta 3)) 2 hx hb hE hP rfl rfl (by decide) (by decide) rfl d_Tube_tells_5 ?_
  refine lv_iload_n hx hb d_Tube_tells_6 rfl (lv_at hl 1 rfl) ?_
  refine q_lald (k := k) 3 hx hb hE hP rfl rfl (by omega) (by decide) d_Tube_tells_7 ?_
  refine lv_lstore_n (lv' := [(3, .long (mM k)), (0, .ref (ta 0)), (1, .int (nI k)), (2, .int 7)]) hx hb d_Tube_tells_8 rfl hl (by decide) rfl (fun ls hl => ?_)
  refine lv_iload_n hx hb d_Tube_tells_9 rfl (lv_at hl 3 rfl) ?_
  refine lv_tableIn (tgt := 73) hx hb d_Tube_tells_10 (by decide) (by decide) (by rfl) (by decide) ?_
  refine lv_lload_n hx hb d_Tube_tells_73 rfl (lv_at hl 0 rfl) ?_
  refine lv_aload_n hx hb d_Tube_tells_74 rfl (lv_at hl 1 rfl) ?_
  refine lv_iload_n hx hb d_Tube_tells_75 rfl (lv_at hl 2 rfl) ?_
  refine cRV (As := [.int (nI k)]) (rest := [.long (mM k)]) (q9 := 0) (ci := 7) K_Tube_pressure x_596 hx hb hml hown hts hE hV hS (c_Tube_pressure l D ct st ta g ign part heat n lft rgt ns mM mP mE mF td cm gr gs k (by omega) (by omega) (hm)) hP rfl hP rfl rfl hl.1 rfl (Nat.le_of_ble_eq_true rfl) d_Tube_tells_76 (Nat.le_of_ble_eq_true rfl) (Nat.le_of_ble_eq_true rfl) ⟨Nat.zero_le _, Nat.zero_le _⟩ ?_
  refine cRS (As := [.long (mM k), .long (w_pr g mM mP mE k)]) (rest := []) K_Laws_temperature x_599 hx hb hml hown hts hE hV hS (c_Laws_temperature l D ct st (mM k) (w_pr g mM mP mE k) (hm.1)) (fun k q h => by simp at h) rfl hl.1 rfl (Nat.le_of_ble_eq_true rfl) d_Tube_tells_79 (Nat.le_of_ble_eq_true rfl) (Nat.le_of_ble_eq_true rfl) ⟨Nat.zero_le _, Nat.zero_le _⟩ ?_
  exact rR_l hx hb hr hlk d_Tube_tells_82 (rfl)
set_option maxHeartbeats 4000000 in
set_option maxRecDepth 100000 in
theorem c_Tube_isBalanced_0 (l : Launch) (D : va_G) (ct : Nat → ClassId) (st : Nat → Nat) (ta : Nat → Nat) (g : Nat) (ign : Int32) (part : Int32) (heat : Int32) (n : Nat) (lft : Nat) (rgt : Nat) (ns : Nat) (mM : Nat → Int64) (mP : Nat → Int64) (mE : Nat → Int64) (mF : Nat → Int64) (td : Nat → Int64) (cm : Nat → Int64) (gr : Nat → Int64) (gs : Nat → Int32) (hn : n ≤ 32) : Met l y_Tube_isBalanced (wsy y_Tube_isBalanced b_Tube_isBalanced 6 (some .boolean)) (k2_rm 0 0) (PcR D ct st [.ref (ta 0), .int 0] [((ta 0), .inr (7, [.ref (ta 1), .int (nI n), .int (nI lft), .int (nI rgt), .int (nI ns), .ref (ta 2), .ref (ta 7), .ref (ta 8), .ref (ta 9), .ref (ta 10)])), ((ta 1), .inr (1, [.int (nI g), .int ign, .int part, .int heat])), ((ta 2), .inl (ct 4, 4, .inr (.inr (.inr (.inr (rw4 (ta 3) (ta 4) (ta 5) (ta 6))))))), ((ta 3), .inl (ct 1, 32, .inr (.inl mM))), ((ta 4), .inl (ct 1, 32, .inr (.inl mP))), ((ta 5), .inl (ct 1, 32, .inr (.inl mE))), ((ta 6), .inl (ct 1, 32, .inr (.inl mF))), ((ta 7), .inl (ct 1, 4, .inr (.inl td))), ((ta 8), .inl (ct 1, 6, .inr (.inl cm))), ((ta 9), .inl (ct 1, 32, .inr (.inl gr))), ((ta 10), .inl (ct 0, 32, .inl gs))]) (k2_QcV (.int (bI (w_sum mM n = (td 0 + cm 0 + 0))))) 0 0 (fun _ => False) := by
  refine enterR (by decide) (Nat.le_of_ble_eq_true rfl) ?_
  intro p e s m args below meth c ls hx hb hr hml hown hts hlk hP hE hV hS hl
  have hl : lv_has ls 6 [(0, .ref (ta 0)), (1, .int 0)] := hl
  refine lv_lconst (v := 0) hx hb d_Tube_isBalanced_0 (by decide) ?_
  refine lv_lstore_n (lv' := [(2, .long 0), (0, .ref (ta 0)), (1, .int 0)]) hx hb d_Tube_isBalanced_1 rfl hl (by decide) rfl (fun ls hl => ?_)
  refine lv_iconst (v := 0) hx hb d_Tube_isBalanced_2 (by decide) ?_
  refine lv_istore (lv' := [(4, .int 0), (2, .long 0), (0, .ref (ta 0)), (1, .int 0)]) hx hb d_Tube_isBalanced_3 hl (by decide) rfl (fun ls hl => ?_)
  have loop_5 : ∀ (n9 : Nat) (i : Nat) (su : Int64) (hi : i ≤ n) (hsu : su = w_sum mM i) (hn9 : n - i < n9) (ls : Array Slot), lv_has ls 6 [(0, .ref (ta 0)), (1, .int 0), (2, .long su), (4, .int (nI i))] → W p l e (k2_rm 0 0) s m args below meth c s.heap [] 0 0 (MQ below (k2_QcV (.int (bI (w_sum mM n = (td 0 + cm 0 + 0))))) args s 0 0 (fun _ => False)) (F0 m 5 ls []) := by
    intro n9
    induction n9 with
    | zero => intro i su hi hsu hn9 ls hl; exact absurd hn9 (Nat.not_lt_zero _)
    | succ n9 ih_5 =>
      intro i su hi hsu hn9 ls hl
      refine lv_iload hx hb d_Tube_isBalanced_5 (lv_at hl 3 rfl) ?_
      refine lv_aload_n hx hb d_Tube_isBalanced_7 rfl (lv_at hl 0 rfl) ?_
      refine q_get 0 1 i_Tube rfl hx hb hts hown hE hP rfl (by decide) x_82 rfl d_Tube_isBalanced_8 ?_
      refine q_icmp_ge_n (a := i) (b := n) (tgt := 32) hx hb d_Tube_isBalanced_11 (by decide) rfl rfl (by omega) (by omega) (fun h_11 => ?_) (fun h_11 => ?_)
      · have hin9 : i = n := by omega
        refine lv_lconst (v := 0) hx hb d_Tube_isBalanced_32 (by decide) ?_
        refine lv_lstore (lv' := [(4, .long 0), (0, .ref (ta 0)), (1, .int 0), (2, .long su)]) hx hb d_Tube_isBalanced_33 hl (by decide) rfl (fun ls hl => ?_)
        refine lv_iload_n hx hb d_Tube_isBalanced_35 rfl (lv_at hl 2 rfl) ?_
        refine lv_iconst (v := 2) hx hb d_Tube_isBalanced_36 (by decide) ?_
        refine lv_icmp_ne (tgt := 51) hx hb d_Tube_isBalanced_37 (by decide) (fun _ => ?_) (fun h => absurd h (by decide))
        refine lv_iload_n hx hb d_Tube_isBalanced_51 rfl (lv_at hl 2 rfl) ?_
        refine lv_iconst (v := 3) hx hb d_Tube_isBalanced_52 (by decide) ?_
        refine lv_icmp_ne (tgt := 65) hx hb d_Tube_isBalanced_53 (by decide) (fun _ => ?_) (fun h => absurd h (by decide))
        refine lv_lload_n hx hb d_Tube_isBalanced_65 rfl (lv_at hl 3 rfl) ?_
        refine lv_aload_n hx hb d_Tube_isBalanced_66 rfl (lv_at hl 1 rfl) ?_
        refine q_get 0 6 i_Tube rfl hx hb hts hown hE hP rfl (by decide) x_93 rfl d_Tube_isBalanced_67 ?_
        refine lv_iload_n hx hb d_Tube_isBalanced_70 rfl (lv_at hl 2 rfl) ?_
        refine q_lald (k := 0) 7 hx hb hE hP rfl rfl (by omega) (by decide) d_Tube_isBalanced_71 ?_
        refine lv_aload_n hx hb d_Tube_isBalanced_72 rfl (lv_at hl 1 rfl) ?_
        refine q_get 0 7 i_Tube rfl hx hb hts hown hE hP rfl (by decide) x_94 rfl d_Tube_isBalanced_73 ?_
        refine lv_iload_n hx hb d_Tube_isBalanced_76 rfl (lv_at hl 2 rfl) ?_
        refine q_lald (k := 0) 8 hx hb hE hP rfl rfl (by omega) (by decide) d_Tube_isBalanced_77 ?_
        refine lv_ladd hx hb d_Tube_isBalanced_78 ?_
        refine lv_lload hx hb d_Tube_isBalanced_79 (lv_at hl 0 rfl) ?_
        refine lv_ladd hx hb d_Tube_isBalanced_81 ?_
        refine W.lcmp hx hb d_Tube_isBalanced_82 ?_
        refine q_cmp_ne (tgt := 90) hx hb d_Tube_isBalanced_83 (by decide) (fun h_83 => ?_) (fun h_83 => ?_)
        · refine lv_iconst (v := 0) hx hb d_Tube_isBalanced_90 (by decide) ?_
          exact rR_z hx hb hr hlk d_Tube_isBalanced_91 (bI_0 (by rw [hsu, hin9] at h_83; exact h_83))
        · refine lv_iconst (v := 1) hx hb d_Tube_isBalanced_86 (by decide) ?_
          refine lv_goto (tgt := 91) hx hb d_Tube_isBalanced_87 (by decide) ?_
          exact rR_z hx hb hr hlk d_Tube_isBalanced_91 (bI_1 (by rw [hsu, hin9] at h_83; exact h_83))
      · refine lv_lload_n hx hb d_Tube_isBalanced_14 rfl (lv_at hl 2 rfl) ?_
        refine lv_aload_n hx hb d_Tube_isBalanced_15 rfl (lv_at hl 0 rfl) ?_
        refine q_get 0 5 i_Tube rfl hx hb hts hown hE hP rfl (by decide) x_90 rfl d_Tube_isBalanced_16 ?_
        refine lv_iload_n hx hb d_Tube_isBalanced_19 rfl (lv_at hl 1 rfl) ?_
        refine q_aald (k := 0) (r := (ta 3)) 2 hx hb hE hP rfl rfl (by decide) (by decide) rfl d_Tube_isBalanced_20 ?_
        refine lv_iload hx hb d_Tube_isBalanced_21 (lv_at hl 3 rfl) ?_
        refine q_lald (k := i) 3 hx hb hE hP rfl rfl (by omega) (by decide) d_Tube_isBalanced_23 ?_
        refine lv_ladd hx hb d_Tube_isBalanced_24 ?_
        refine lv_lstore_n (lv' := [(2, .long (su + (mM i))), (0, .ref (ta 0)), (1, .int 0), (4, .int (nI i))]) hx hb d_Tube_isBalanced_25 rfl hl (by decide) rfl (fun ls hl => ?_)
        refine lv_iinc (v := (nI (i + 1))) (lv' := [(4, .int (nI (i + 1))), (2, .long (su + (mM i))), (0, .ref (ta 0)), (1, .int 0)]) hx hb d_Tube_isBalanced_26 hl (k := 3) rfl (nI_1 _) (by decide) rfl (fun ls hl => ?_)
        refine lv_goto (tgt := 5) hx hb d_Tube_isBalanced_29 (by decide) ?_
        exact ih_5 (i + 1) (su + (mM i)) (by omega) (by rw [hsu]; rfl) (by omega) ls (lv_sub hl [2, 3, 1, 0] rfl)
  exact loop_5 _ 0 0 (by omega) (rfl) (Nat.lt_succ_self _) ls (lv_sub hl [2, 3, 1, 0] rfl)
set_option maxHeartbeats 4000000 in
set_option maxRecDepth 100000 in
theorem c_Tube_isBalanced_1 (l : Launch) (D : va_G) (ct : Nat → ClassId) (st : Nat → Nat) (ta : Nat → Nat) (g : Nat) (ign : Int32) (part : Int32) (heat : Int32) (n : Nat) (lft : Nat) (rgt : Nat) (ns : Nat) (mM : Nat → Int64) (mP : Nat → Int64) (mE : Nat → Int64) (mF : Nat → Int64) (td : Nat → Int64) (cm : Nat → Int64) (gr : Nat → Int64) (gs : Nat → Int32) (hn : n ≤ 32) : Met l y_Tube_isBalanced (wsy y_Tube_isBalanced b_Tube_isBalanced 6 (some .boolean)) (k2_rm 0 0) (PcR D ct st [.ref (ta 0), .int 1] [((ta 0), .inr (7, [.ref (ta 1), .int (nI n), .int (nI lft), .int (nI rgt), .int (nI ns), .ref (ta 2), .ref (ta 7), .ref (ta 8), .ref (ta 9), .ref (ta 10)])), ((ta 1), .inr (1, [.int (nI g), .int ign, .int part, .int heat])), ((ta 2), .inl (ct 4, 4, .inr (.inr (.inr (.inr (rw4 (ta 3) (ta 4) (ta 5) (ta 6))))))), ((ta 3), .inl (ct 1, 32, .inr (.inl mM))), ((ta 4), .inl (ct 1, 32, .inr (.inl mP))), ((ta 5), .inl (ct 1, 32, .inr (.inl mE))), ((ta 6), .inl (ct 1, 32, .inr (.inl mF))), ((ta 7), .inl (ct 1, 4, .inr (.inl td))), ((ta 8), .inl (ct 1, 6, .inr (.inl cm))), ((ta 9), .inl (ct 1, 32, .inr (.inl gr))), ((ta 10), .inl (ct 0, 32, .inl gs))]) (k2_QcV (.int (bI (w_sum mP n = (td 1 + cm 1 + 0))))) 0 0 (fun _ => False) := by
  refine enterR (by decide) (Nat.le_of_ble_eq_true rfl) ?_
  intro p e s m args below meth c ls hx hb hr hml hown hts hlk hP hE hV hS hl
  have hl : lv_has ls 6 [(0, .ref (ta 0)), (1, .int 1)] := hl
  refine lv_lconst (v := 0) hx hb d_Tube_isBalanced_0 (by decide) ?_
  refine lv_lstore_n (lv' := [(2, .long 0), (0, .ref (ta 0)), (1, .int 1)]) hx hb d_Tube_isBalanced_1 rfl hl (by decide) rfl (fun ls hl => ?_)
  refine lv_iconst (v := 0) hx hb d_Tube_isBalanced_2 (by decide) ?_
  refine lv_istore (lv' := [(4, .int 0), (2, .long 0), (0, .ref (ta 0)), (1, .int 1)]) hx hb d_Tube_isBalanced_3 hl (by decide) rfl (fun ls hl => ?_)
  have loop_5 : ∀ (n9 : Nat) (i : Nat) (su : Int64) (hi : i ≤ n) (hsu : su = w_sum mP i) (hn9 : n - i < n9) (ls : Array Slot), lv_has ls 6 [(0, .ref (ta 0)), (1, .int 1), (2, .long su), (4, .int (nI i))] → W p l e (k2_rm 0 0) s m args below meth c s.heap [] 0 0 (MQ below (k2_QcV (.int (bI (w_sum mP n = (td 1 + cm 1 + 0))))) args s 0 0 (fun _ => False)) (F0 m 5 ls []) := by
    intro n9
    induction n9 with
    | zero => intro i su hi hsu hn9 ls hl; exact absurd hn9 (Nat.not_lt_zero _)
    | succ n9 ih_5 =>
      intro i su hi hsu hn9 ls hl
      refine lv_iload hx hb d_Tube_isBalanced_5 (lv_at hl 3 rfl) ?_
      refine lv_aload_n hx hb d_Tube_isBalanced_7 rfl (lv_at hl 0 rfl) ?_
      refine q_get 0 1 i_Tube rfl hx hb hts hown hE hP rfl (by decide) x_82 rfl d_Tube_isBalanced_8 ?_
      refine q_icmp_ge_n (a := i) (b := n) (tgt := 32) hx hb d_Tube_isBalanced_11 (by decide) rfl rfl (by omega) (by omega) (fun h_11 => ?_) (fun h_11 => ?_)
      · have hin9 : i = n := by omega
        refine lv_lconst (v := 0) hx hb d_Tube_isBalanced_32 (by decide) ?_
        refine lv_lstore (lv' := [(4, .long 0), (0, .ref (ta 0)), (1, .int 1), (2, .long su)]) hx hb d_Tube_isBalanced_33 hl (by decide) rfl (fun ls hl => ?_)
        refine lv_iload_n hx hb d_Tube_isBalanced_35 rfl (lv_at hl 2 rfl) ?_
        refine lv_iconst (v := 2) hx hb d_Tube_isBalanced_36 (by decide) ?_
        refine lv_icmp_ne (tgt := 51) hx hb d_Tube_isBalanced_37 (by decide) (fun _ => ?_) (fun h => absurd h (by decide))
        refine lv_iload_n hx hb d_Tube_isBalanced_51 rfl (lv_at hl 2 rfl) ?_
        refine lv_iconst (v := 3) hx hb d_Tube_isBalanced_52 (by decide) ?_
        refine lv_icmp_ne (tgt := 65) hx hb d_Tube_isBalanced_53 (by decide) (fun _ => ?_) (fun h => absurd h (by decide))
        refine lv_lload_n hx hb d_Tube_isBalanced_65 rfl (lv_at hl 3 rfl) ?_
        refine lv_aload_n hx hb d_Tube_isBalanced_66 rfl (lv_at hl 1 rfl) ?_
        refine q_get 0 6 i_Tube rfl hx hb hts hown hE hP rfl (by decide) x_93 rfl d_Tube_isBalanced_67 ?_
        refine lv_iload_n hx hb d_Tube_isBalanced_70 rfl (lv_at hl 2 rfl) ?_
        refine q_lald (k := 1) 7 hx hb hE hP rfl rfl (by omega) (by decide) d_Tube_isBalanced_71 ?_
        refine lv_aload_n hx hb d_Tube_isBalanced_72 rfl (lv_at hl 1 rfl) ?_
        refine q_get 0 7 i_Tube rfl hx hb hts hown hE hP rfl (by decide) x_94 rfl d_Tube_isBalanced_73 ?_
        refine lv_iload_n hx hb d_Tube_isBalanced_76 rfl (lv_at hl 2 rfl) ?_
        refine q_lald (k := 1) 8 hx hb hE hP rfl rfl (by omega) (by decide) d_Tube_isBalanced_77 ?_
        refine lv_ladd hx hb d_Tube_isBalanced_78 ?_
        refine lv_lload hx hb d_Tube_isBalanced_79 (lv_at hl 0 rfl) ?_
        refine lv_ladd hx hb d_Tube_isBalanced_81 ?_
        refine W.lcmp hx hb d_Tube_isBalanced_82 ?_
        refine q_cmp_ne (tgt := 90) hx hb d_Tube_isBalanced_83 (by decide) (fun h_83 => ?_) (fun h_83 => ?_)
        · refine lv_iconst (v := 0) hx hb d_Tube_isBalanced_90 (by decide) ?_
          exact rR_z hx hb hr hlk d_Tube_isBalanced_91 (bI_0 (by rw [hsu, hin9] at h_83; exact h_83))
        · refine lv_iconst (v := 1) hx hb d_Tube_isBalanced_86 (by decide) ?_
          refine lv_goto (tgt := 91) hx hb d_Tube_isBalanced_87 (by decide) ?_
          exact rR_z hx hb hr hlk d_Tube_isBalanced_91 (bI_1 (by rw [hsu, hin9] at h_83; exact h_83))
      · refine lv_lload_n hx hb d_Tube_isBalanced_14 rfl (lv_at hl 2 rfl) ?_
        refine lv_aload_n hx hb d_Tube_isBalanced_15 rfl (lv_at hl 0 rfl) ?_
        refine q_get 0 5 i_Tube rfl hx hb hts hown hE hP rfl (by decide) x_90 rfl d_Tube_isBalanced_16 ?_
        refine lv_iload_n hx hb d_Tube_isBalanced_19 rfl (lv_at hl 1 rfl) ?_
        refine q_aald (k := 1) (r := (ta 4)) 2 hx hb hE hP rfl rfl (by decide) (by decide) rfl d_Tube_isBalanced_20 ?_
        refine lv_iload hx hb d_Tube_isBalanced_21 (lv_at hl 3 rfl) ?_
        refine q_lald (k := i) 4 hx hb hE hP rfl rfl (by omega) (by decide) d_Tube_isBalanced_23 ?_
        refine lv_ladd hx hb d_Tube_isBalanced_24 ?_
        refine lv_lstore_n (lv' := [(2, .long (su + (mP i))), (0, .ref (ta 0)), (1, .int 1), (4, .int (nI i))]) hx hb d_Tube_isBalanced_25 rfl hl (by decide) rfl (fun ls hl => ?_)
        refine lv_iinc (v := (nI (i + 1))) (lv' := [(4, .int (nI (i + 1))), (2, .long (su + (mP i))), (0, .ref (ta 0)), (1, .int 1)]) hx hb d_Tube_isBalanced_26 hl (k := 3) rfl (nI_1 _) (by decide) rfl (fun ls hl => ?_)
        refine lv_goto (tgt := 5) hx hb d_Tube_isBalanced_29 (by decide) ?_
        exact ih_5 (i + 1) (su + (mP i)) (by omega) (by rw [hsu]; rfl) (by omega) ls (lv_sub hl [2, 3, 1, 0] rfl)
  exact loop_5 _ 0 0 (by omega) (rfl) (Nat.lt_succ_self _) ls (lv_sub hl [2, 3, 1, 0] rfl)
set_option maxHeartbeats 4000000 in
set_option maxRecDepth 100000 in
theorem c_Tube_isBalanced_2 (l : Launch) (D : va_G) (ct : Nat → ClassId) (st : Nat → Nat) (ta : Nat → Nat) (g : Nat) (ign : Int32) (part : Int32) (heat : Int32) (n : Nat) (lft : Nat) (rgt : Nat) (ns : Nat) (mM : Nat → Int64) (mP : Nat → Int64) (mE : Nat → Int64) (mF : Nat → Int64) (td : Nat → Int64) (cm : Nat → Int64) (gr : Nat → Int64) (gs : Nat → Int32) (hn : n ≤ 32) : Met l y_Tube_isBalanced (wsy y_Tube_isBalanced b_Tube_isBalanced 6 (some .boolean)) (k2_rm 0 0) (PcR D ct st [.ref (ta 0), .int 2] [((ta 0), .inr (7, [.ref (ta 1), .int (nI n), .int (nI lft), .int (nI rgt), .int (nI ns), .ref (ta 2), .ref (ta 7), .ref (ta 8), .ref (ta 9), .ref (ta 10)])), ((ta 1), .inr (1, [.int (nI g), .int ign, .int part, .int heat])), ((ta 2), .inl (ct 4, 4, .inr (.inr (.inr (.inr (rw4 (ta 3) (ta 4) (ta 5) (ta 6))))))), ((ta 3), .inl (ct 1, 32, .inr (.inl mM))), ((ta 4), .inl (ct 1, 32, .inr (.inl mP))), ((ta 5), .inl (ct 1, 32, .inr (.inl mE))), ((ta 6), .inl (ct 1, 32, .inr (.inl mF))), ((ta 7), .inl (ct 1, 4, .inr (.inl td))), ((ta 8), .inl (ct 1, 6, .inr (.inl cm))), ((ta 9), .inl (ct 1, 32, .inr (.inl gr))), ((ta 10), .inl (ct 0, 32, .inl gs))]) (k2_QcV (.int (bI (w_sum mE n = (td 2 + cm 2 + cm 4))))) 0 0 (fun _ => False) := by
  refine enterR (by decide) (Nat.le_of_ble_eq_true rfl) ?_
  intro p e s m args below meth c ls hx hb hr hml hown hts hlk hP hE hV hS hl
  have hl : lv_has ls 6 [(0, .ref (ta 0)), (1, .int 2)] := hl
  refine lv_lconst (v := 0) hx hb d_Tube_isBalanced_0 (by decide) ?_
  refine lv_lstore_n (lv' := [(2, .long 0), (0, .ref (ta 0)), (1, .int 2)]) hx hb d_Tube_isBalanced_1 rfl hl (by decide) rfl (fun ls hl => ?_)
  refine lv_iconst (v := 0) hx hb d_Tube_isBalanced_2 (by decide) ?_
  refine lv_istore (lv' := [(4, .int 0), (2, .long 0), (0, .ref (ta 0)), (1, .int 2)]) hx hb d_Tube_isBalanced_3 hl (by decide) rfl (fun ls hl => ?_)
  have loop_5 : ∀ (n9 : Nat) (i : Nat) (su : Int64) (hi : i ≤ n) (hsu : su = w_sum mE i) (hn9 : n - i < n9) (ls : Array Slot), lv_has ls 6 [(0, .ref (ta 0)), (1, .int 2), (2, .long su), (4, .int (nI i))] → W p l e (k2_rm 0 0) s m args below meth c s.heap [] 0 0 (MQ below (k2_QcV (.int (bI (w_sum mE n = (td 2 + cm 2 + cm 4))))) args s 0 0 (fun _ => False)) (F0 m 5 ls []) := by
    intro n9
    induction n9 with
    | zero => intro i su hi hsu hn9 ls hl; exact absurd hn9 (Nat.not_lt_zero _)
    | succ n9 ih_5 =>
      intro i su hi hsu hn9 ls hl
      refine lv_iload hx hb d_Tube_isBalanced_5 (lv_at hl 3 rfl) ?_
      refine lv_aload_n hx hb d_Tube_isBalanced_7 rfl (lv_at hl 0 rfl) ?_
      refine q_get 0 1 i_Tube rfl hx hb hts hown hE hP rfl (by decide) x_82 rfl d_Tube_isBalanced_8 ?_
      refine q_icmp_ge_n (a := i) (b := n) (tgt := 32) hx hb d_Tube_isBalanced_11 (by decide) rfl rfl (by omega) (by omega) (fun h_11 => ?_) (fun h_11 => ?_)
      · have hin9 : i = n := by omega
        refine lv_lconst (v := 0) hx hb d_Tube_isBalanced_32 (by decide) ?_
        refine lv_lstore (lv' := [(4, .long 0), (0, .ref (ta 0)), (1, .int 2), (2, .long su)]) hx hb d_Tube_isBalanced_33 hl (by decide) rfl (fun ls hl => ?_)
        refine lv_iload_n hx hb d_Tube_isBalanced_35 rfl (lv_at hl 2 rfl) ?_
        refine lv_iconst (v := 2) hx hb d_Tube_isBalanced_36 (by decide) ?_
        refine lv_icmp_ne (tgt := 51) hx hb d_Tube_isBalanced_37 (by decide) (fun h => absurd h (by decide)) (fun _ => ?_)
        refine lv_aload_n hx hb d_Tube_isBalanced_40 rfl (lv_at hl 1 rfl) ?_
        refine q_get 0 7 i_Tube rfl hx hb hts hown hE hP rfl (by decide) x_94 rfl d_Tube_isBalanced_41 ?_
        refine lv_iconst (v := 4) hx hb d_Tube_isBalanced_44 (by decide) ?_
        refine q_lald (k := 4) 8 hx hb hE hP rfl rfl (by omega) (by decide) d_Tube_isBalanced_45 ?_
        refine lv_lstore (lv' := [(4, .long (cm 4)), (0, .ref (ta 0)), (1, .int 2), (2, .long su)]) hx hb d_Tube_isBalanced_46 hl (by decide) rfl (fun ls hl => ?_)
        refine lv_goto (tgt := 65) hx hb d_Tube_isBalanced_48 (by decide) ?_
        refine lv_lload_n hx hb d_Tube_isBalanced_65 rfl (lv_at hl 3 rfl) ?_
        refine lv_aload_n hx hb d_Tube_isBalanced_66 rfl (lv_at hl 1 rfl) ?_
        refine q_get 0 6 i_Tube rfl hx hb hts hown hE hP rfl (by decide) x_93 rfl d_Tube_isBalanced_67 ?_
        refine lv_iload_n hx hb d_Tube_isBalanced_70 rfl (lv_at hl 2 rfl) ?_
        refine q_lald (k := 2) 7 hx hb hE hP rfl rfl (by omega) (by decide) d_Tube_isBalanced_71 ?_
        refine lv_aload_n hx hb d_Tube_isBalanced_72 rfl (lv_at hl 1 rfl) ?_
        refine q_get 0 7 i_Tube rfl hx hb hts hown hE hP rfl (by decide) x_94 rfl d_Tube_isBalanced_73 ?_
        refine lv_iload_n hx hb d_Tube_isBalanced_76 rfl (lv_at hl 2 rfl) ?_
        refine q_lald (k := 2) 8 hx hb hE hP rfl rfl (by omega) (by decide) d_Tube_isBalanced_77 ?_
        refine lv_ladd hx hb d_Tube_isBalanced_78 ?_
        refine lv_lload hx hb d_Tube_isBalanced_79 (lv_at hl 0 rfl) ?_
        refine lv_ladd hx hb d_Tube_isBalanced_81 ?_
        refine W.lcmp hx hb d_Tube_isBalanced_82 ?_
        refine q_cmp_ne (tgt := 90) hx hb d_Tube_isBalanced_83 (by decide) (fun h_83 => ?_) (fun h_83 => ?_)
        · refine lv_iconst (v := 0) hx hb d_Tube_isBalanced_90 (by decide) ?_
          exact rR_z hx hb hr hlk d_Tube_isBalanced_91 (bI_0 (by rw [hsu, hin9] at h_83; exact h_83))
        · refine lv_iconst (v := 1) hx hb d_Tube_isBalanced_86 (by decide) ?_
          refine lv_goto (tgt := 91) hx hb d_Tube_isBalanced_87 (by decide) ?_
          exact rR_z hx hb hr hlk d_Tube_isBalanced_91 (bI_1 (by rw [hsu, hin9] at h_83; exact h_83))
      · refine lv_lload_n hx hb d_Tube_isBalanced_14 rfl (lv_at hl 2 rfl) ?_
        refine lv_aload_n hx hb d_Tube_isBalanced_15 rfl (lv_at hl 0 rfl) ?_
        refine q_get 0 5 i_Tube rfl hx hb hts hown hE hP rfl (by decide) x_90 rfl d_Tube_isBalanced_16 ?_
        refine lv_iload_n hx hb d_Tube_isBalanced_19 rfl (lv_at hl 1 rfl) ?_
        refine q_aald (k := 2) (r := (ta 5)) 2 hx hb hE hP rfl rfl (by decide) (by decide) rfl d_Tube_isBalanced_20 ?_
        refine lv_iload hx hb d_Tube_isBalanced_21 (lv_at hl 3 rfl) ?_
        refine q_lald (k := i) 5 hx hb hE hP rfl rfl (by omega) (by decide) d_Tube_isBalanced_23 ?_
        refine lv_ladd hx hb d_Tube_isBalanced_24 ?_
        refine lv_lstore_n (lv' := [(2, .long (su + (mE i))), (0, .ref (ta 0)), (1, .int 2), (4, .int (nI i))]) hx hb d_Tube_isBalanced_25 rfl hl (by decide) rfl (fun ls hl => ?_)
        refine lv_iinc (v := (nI (i + 1))) (lv' := [(4, .int (nI (i + 1))), (2, .long (su + (mE i))), (0, .ref (ta 0)), (1, .int 2)]) hx hb d_Tube_isBalanced_26 hl (k := 3) rfl (nI_1 _) (by decide) rfl (fun ls hl => ?_)
        refine lv_goto (tgt := 5) hx hb d_Tube_isBalanced_29 (by decide) ?_
        exact ih_5 (i + 1) (su + (mE i)) (by omega) (by rw [hsu]; rfl) (by omega) ls (lv_sub hl [2, 3, 1, 0] rfl)
  exact loop_5 _ 0 0 (by omega) (rfl) (Nat.lt_succ_self _) ls (lv_sub hl [2, 3, 1, 0] rfl)
set_option maxHeartbeats 4000000 in
set_option maxRecDepth 100000 in
theorem c_Tube_isBalanced_3 (l : Launch) (D : va_G) (ct : Nat → ClassId) (st : Nat → Nat) (ta : Nat → Nat) (g : Nat) (ign : Int32) (part : Int32) (heat : Int32) (n : Nat) (lft : Nat) (rgt : Nat) (ns : Nat) (mM : Nat → Int64) (mP : Nat → Int64) (mE : Nat → Int64) (mF : Nat → Int64) (td : Nat → Int64) (cm : Nat → Int64) (gr : Nat → Int64) (gs : Nat → Int32) (hn : n ≤ 32) : Met l y_Tube_isBalanced (wsy y_Tube_isBalanced b_Tube_isBalanced 6 (some .boolean)) (k2_rm 0 0) (PcR D ct st [.ref (ta 0), .int 3] [((ta 0), .inr (7, [.ref (ta 1), .int (nI n), .int (nI lft), .int (nI rgt), .int (nI ns), .ref (ta 2), .ref (ta 7), .ref (ta 8), .ref (ta 9), .ref (ta 10)])), ((ta 1), .inr (1, [.int (nI g), .int ign, .int part, .int heat])), ((ta 2), .inl (ct 4, 4, .inr (.inr (.inr (.inr (rw4 (ta 3) (ta 4) (ta 5) (ta 6))))))), ((ta 3), .inl (ct 1, 32, .inr (.inl mM))), ((ta 4), .inl (ct 1, 32, .inr (.inl mP))), ((ta 5), .inl (ct 1, 32, .inr (.inl mE))), ((ta 6), .inl (ct 1, 32, .inr (.inl mF))), ((ta 7), .inl (ct 1, 4, .inr (.inl td))), ((ta 8), .inl (ct 1, 6, .inr (.inl cm))), ((ta 9), .inl (ct 1, 32, .inr (.inl gr))), ((ta 10), .inl (ct 0, 32, .inl gs))]) (k2_QcV (.int (bI (w_sum mF n = (td 3 + cm 3 + -cm 5))))) 0 0 (fun _ => False) := by
  refine enterR (by decide) (Nat.le_of_ble_eq_true rfl) ?_
  intro p e s m args below meth c ls hx hb hr hml hown hts hlk hP hE hV hS hl
  have hl : lv_has ls 6 [(0, .ref (ta 0)), (1, .int 3)] := hl
  refine lv_lconst (v := 0) hx hb d_Tube_isBalanced_0 (by decide) ?_
  refine lv_lstore_n (lv' := [(2, .long 0), (0, .ref (ta 0)), (1, .int 3)]) hx hb d_Tube_isBalanced_1 rfl hl (by decide) rfl (fun ls hl => ?_)
  refine lv_iconst (v := 0) hx hb d_Tube_isBalanced_2 (by decide) ?_
  refine lv_istore (lv' := [(4, .int 0), (2, .long 0), (0, .ref (ta 0)), (1, .int 3)]) hx hb d_Tube_isBalanced_3 hl (by decide) rfl (fun ls hl => ?_)
  have loop_5 : ∀ (n9 : Nat) (i : Nat) (su : Int64) (hi : i ≤ n) (hsu : su = w_sum mF i) (hn9 : n - i < n9) (ls : Array Slot), lv_has ls 6 [(0, .ref (ta 0)), (1, .int 3), (2, .long su), (4, .int (nI i))] → W p l e (k2_rm 0 0) s m args below meth c s.heap [] 0 0 (MQ below (k2_QcV (.int (bI (w_sum mF n = (td 3 + cm 3 + -cm 5))))) args s 0 0 (fun _ => False)) (F0 m 5 ls []) := by
    intro n9
    induction n9 with
    | zero => intro i su hi hsu hn9 ls hl; exact absurd hn9 (Nat.not_lt_zero _)
    | succ n9 ih_5 =>
      intro i su hi hsu hn9 ls hl
      refine lv_iload hx hb d_Tube_isBalanced_5 (lv_at hl 3 rfl) ?_
      refine lv_aload_n hx hb d_Tube_isBalanced_7 rfl (lv_at hl 0 rfl) ?_
      refine q_get 0 1 i_Tube rfl hx hb hts hown hE hP rfl (by decide) x_82 rfl d_Tube_isBalanced_8 ?_
      refine q_icmp_ge_n (a := i) (b := n) (tgt := 32) hx hb d_Tube_isBalanced_11 (by decide) rfl rfl (by omega) (by omega) (fun h_11 => ?_) (fun h_11 => ?_)
      · have hin9 : i = n := by omega
        refine lv_lconst (v := 0) hx hb d_Tube_isBalanced_32 (by decide) ?_
        refine lv_lstore (lv' := [(4, .long 0), (0, .ref (ta 0)), (1, .int 3), (2, .long su)]) hx hb d_Tube_isBalanced_33 hl (by decide) rfl (fun ls hl => ?_)
        refine lv_iload_n hx hb d_Tube_isBalanced_35 rfl (lv_at hl 2 rfl) ?_
        refine lv_iconst (v := 2) hx hb d_Tube_isBalanced_36 (by decide) ?_
        refine lv_icmp_ne (tgt := 51) hx hb d_Tube_isBalanced_37 (by decide) (fun _ => ?_) (fun h => absurd h (by decide))
        refine lv_iload_n hx hb d_Tube_isBalanced_51 rfl (lv_at hl 2 rfl) ?_
        refine lv_iconst (v := 3) hx hb d_Tube_isBalanced_52 (by decide) ?_
        refine lv_icmp_ne (tgt := 65) hx hb d_Tube_isBalanced_53 (by decide) (fun h => absurd h (by decide)) (fun _ => ?_)
        refine lv_aload_n hx hb d_Tube_isBalanced_56 rfl (lv_at hl 1 rfl) ?_
        refine q_get 0 7 i_Tube rfl hx hb hts hown hE hP rfl (by decide) x_94 rfl d_Tube_isBalanced_57 ?_
        refine lv_iconst (v := 5) hx hb d_Tube_isBalanced_60 (by decide) ?_
        refine q_lald (k := 5) 8 hx hb hE hP rfl rfl (by omega) (by decide) d_Tube_isBalanced_61 ?_
        refine lv_lneg hx hb d_Tube_isBalanced_62 ?_
        refine lv_lstore (lv' := [(4, .long (-(cm 5))), (0, .ref (ta 0)), (1, .int 3), (2, .long su)]) hx hb d_Tube_isBalanced_63 hl (by decide) rfl (fun ls hl => ?_)
        refine lv_lload_n hx hb d_Tube_isBalanced_65 rfl (lv_at hl 3 rfl) ?_
        refine lv_aload_n hx hb d_Tube_isBalanced_66 rfl (lv_at hl 1 rfl) ?_
        refine q_get 0 6 i_Tube rfl hx hb hts hown hE hP rfl (by decide) x_93 rfl d_Tube_isBalanced_67 ?_
        refine lv_iload_n hx hb d_Tube_isBalanced_70 rfl (lv_at hl 2 rfl) ?_
        refine q_lald (k := 3) 7 hx hb hE hP rfl rfl (by omega) (by decide) d_Tube_isBalanced_71 ?_
        refine lv_aload_n hx hb d_Tube_isBalanced_72 rfl (lv_at hl 1 rfl) ?_
        refine q_get 0 7 i_Tube rfl hx hb hts hown hE hP rfl (by decide) x_94 rfl d_Tube_isBalanced_73 ?_
        refine lv_iload_n hx hb d_Tube_isBalanced_76 rfl (lv_at hl 2 rfl) ?_
        refine q_lald (k := 3) 8 hx hb hE hP rfl rfl (by omega) (by decide) d_Tube_isBalanced_77 ?_
        refine lv_ladd hx hb d_Tube_isBalanced_78 ?_
        refine lv_lload hx hb d_Tube_isBalanced_79 (lv_at hl 0 rfl) ?_
        refine lv_ladd hx hb d_Tube_isBalanced_81 ?_
        refine W.lcmp hx hb d_Tube_isBalanced_82 ?_
        refine q_cmp_ne (tgt := 90) hx hb d_Tube_isBalanced_83 (by decide) (fun h_83 => ?_) (fun h_83 => ?_)
        · refine lv_iconst (v := 0) hx hb d_Tube_isBalanced_90 (by decide) ?_
          exact rR_z hx hb hr hlk d_Tube_isBalanced_91 (bI_0 (by rw [hsu, hin9] at h_83; exact h_83))
        · refine lv_iconst (v := 1) hx hb d_Tube_isBalanced_86 (by decide) ?_
          refine lv_goto (tgt := 91) hx hb d_Tube_isBalanced_87 (by decide) ?_
          exact rR_z hx hb hr hlk d_Tube_isBalanced_91 (bI_1 (by rw [hsu, hin9] at h_83; exact h_83))
      · refine lv_lload_n hx hb d_Tube_isBalanced_14 rfl (lv_at hl 2 rfl) ?_
        refine lv_aload_n hx hb d_Tube_isBalanced_15 rfl (lv_at hl 0 rfl) ?_
        refine q_get 0 5 i_Tube rfl hx hb hts hown hE hP rfl (by decide) x_90 rfl d_Tube_isBalanced_16 ?_
        refine lv_iload_n hx hb d_Tube_isBalanced_19 rfl (lv_at hl 1 rfl) ?_
        refine q_aald (k := 3) (r := (ta 6)) 2 hx hb hE hP rfl rfl (by decide) (by decide) rfl d_Tube_isBalanced_20 ?_
        refine lv_iload hx hb d_Tube_isBalanced_21 (lv_at hl 3 rfl) ?_
        refine q_lald (k := i) 6 hx hb hE hP rfl rfl (by omega) (by decide) d_Tube_isBalanced_23 ?_
        refine lv_ladd hx hb d_Tube_isBalanced_24 ?_
        refine lv_lstore_n (lv' := [(2, .long (su + (mF i))), (0, .ref (ta 0)), (1, .int 3), (4, .int (nI i))]) hx hb d_Tube_isBalanced_25 rfl hl (by decide) rfl (fun ls hl => ?_)
        refine lv_iinc (v := (nI (i + 1))) (lv' := [(4, .int (nI (i + 1))), (2, .long (su + (mF i))), (0, .ref (ta 0)), (1, .int 3)]) hx hb d_Tube_isBalanced_26 hl (k := 3) rfl (nI_1 _) (by decide) rfl (fun ls hl => ?_)
        refine lv_goto (tgt := 5) hx hb d_Tube_isBalanced_29 (by decide) ?_
        exact ih_5 (i + 1) (su + (mF i)) (by omega) (by rw [hsu]; rfl) (by omega) ls (lv_sub hl [2, 3, 1, 0] rfl)
  exact loop_5 _ 0 0 (by omega) (rfl) (Nat.lt_succ_self _) ls (lv_sub hl [2, 3, 1, 0] rfl)
set_option maxHeartbeats 4000000 in
set_option maxRecDepth 100000 in
theorem c_Tube_noteProbe (l : Launch) (D : va_G) (ct : Nat → ClassId) (st : Nat → Nat) (ta : Nat → Nat) (g : Nat) (ign : Int32) (part : Int32) (heat : Int32) (n : Nat) (lft : Nat) (rgt : Nat) (ns : Nat) (mM : Nat → Int64) (mP : Nat → Int64) (mE : Nat → Int64) (mF : Nat → Int64) (td : Nat → Int64) (cm : Nat → Int64) (gr : Nat → Int64) (gs : Nat → Int32) (k : Nat) (pr : Int64) (hk : k < 32) (sz : Nat) : Met l y_Tube_noteProbe (wsy y_Tube_noteProbe b_Tube_noteProbe 4 (none)) (rmW 0 0 0 0) (PcW D ct st [.ref (ta 0), .int (nI k), .long pr] [((ta 0), .inr (7, [.ref (ta 1), .int (nI n), .int (nI lft), .int (nI rgt), .int (nI ns), .ref (ta 2), .ref (ta 7), .ref (ta 8), .ref (ta 9), .ref (ta 10)])), ((ta 1), .inr (1, [.int (nI g), .int ign, .int part, .int heat])), ((ta 2), .inl (ct 4, 4, .inr (.inr (.inr (.inr (rw4 (ta 3) (ta 4) (ta 5) (ta 6))))))), ((ta 3), .inl (ct 1, 32, .inr (.inl mM))), ((ta 4), .inl (ct 1, 32, .inr (.inl mP))), ((ta 5), .inl (ct 1, 32, .inr (.inl mE))), ((ta 6), .inl (ct 1, 32, .inr (.inl mF))), ((ta 7), .inl (ct 1, 4, .inr (.inl td))), ((ta 8), .inl (ct 1, 6, .inr (.inl cm))), ((ta 9), .inl (ct 1, 32, .inr (.inl gr))), ((ta 10), .inl (ct 0, 32, .inl gs))] sz) (QcW D [((ta 0), .inr (7, [.ref (ta 1), .int (nI n), .int (nI lft), .int (nI rgt), .int (nI ns), .ref (ta 2), .ref (ta 7), .ref (ta 8), .ref (ta 9), .ref (ta 10)])), ((ta 1), .inr (1, [.int (nI g), .int ign, .int part, .int heat])), ((ta 2), .inl (ct 4, 4, .inr (.inr (.inr (.inr (rw4 (ta 3) (ta 4) (ta 5) (ta 6))))))), ((ta 3), .inl (ct 1, 32, .inr (.inl mM))), ((ta 4), .inl (ct 1, 32, .inr (.inl mP))), ((ta 5), .inl (ct 1, 32, .inr (.inl mE))), ((ta 6), .inl (ct 1, 32, .inr (.inl mF))), ((ta 7), .inl (ct 1, 4, .inr (.inl td))), ((ta 8), .inl (ct 1, 6, .inr (.inl cm))), ((ta 9), .inl (ct 1, 32, .inr (.inl gr))), ((ta 10), .inl (ct 0, 32, .inl gs))] sz (fun v W1 => ∃ (gr1 : Nat → Int64) (gs1 : Nat → Int32), v = none ∧ W1 = [((ta 0), .inr (7, [.ref (ta 1), .int (nI n), .int (nI lft), .int (nI rgt), .int (nI ns), .ref (ta 2), .ref (ta 7), .ref (ta 8), .ref (ta 9), .ref (ta 10)])), ((ta 1), .inr (1, [.int (nI g), .int ign, .int part, .int heat])), ((ta 2), .inl (ct 4, 4, .inr (.inr (.inr (.inr (rw4 (ta 3) (ta 4) (ta 5) (ta 6))))))), ((ta 3), .inl (ct 1, 32, .inr (.inl mM))), ((ta 4), .inl (ct 1, 32, .inr (.inl mP))), ((ta 5), .inl (ct 1, 32, .inr (.inl mE))), ((ta 6), .inl (ct 1, 32, .inr (.inl mF))), ((ta 7), .inl (ct 1, 4, .inr (.inl td))), ((ta 8), .inl (ct 1, 6, .inr (.inl cm))), ((ta 9), .inl (ct 1, 32, .inr (.inl gr1))), ((ta 10), .inl (ct 0, 32, .inl gs1))] ∧ ((∀ j, gr1 j = if j = k ∧ gr k < pr then pr else gr j) ∧ ∀ j, gs1 j = if j = k ∧ gr k < pr then nI ns else gs j))) 0 0 (va_A [((ta 0), .inr (7, [.ref (ta 1), .int (nI n), .int (nI lft), .int (nI rgt), .int (nI ns), .ref (ta 2), .ref (ta 7), .ref (ta 8), .ref (ta 9), .ref (ta 10)])), ((ta 1), .inr (1, [.int (nI g), .int ign, .int part, .int heat])), ((ta 2), .inl (ct 4, 4, .inr (.inr (.inr (.inr (rw4 (ta 3) (ta 4) (ta 5) (ta 6))))))), ((ta 3), .inl (ct 1, 32, .inr (.inl mM))), ((ta 4), .inl (ct 1, 32, .inr (.inl mP))), ((ta 5), .inl (ct 1, 32, .inr (.inl mE))), ((ta 6), .inl (ct 1, 32, .inr (.inl mF))), ((ta 7), .inl (ct 1, 4, .inr (.inl td))), ((ta 8), .inl (ct 1, 6, .inr (.inl cm))), ((ta 9), .inl (ct 1, 32, .inr (.inl gr))), ((ta 10), .inl (ct 0, 32, .inl gs))] sz) := by
  refine enterW (by decide) (Nat.le_of_ble_eq_true rfl) ?_
  intro p e s m args below meth c ls A hx hb hr hml hown hts hlk hin hsz hAe hP hD hA hE hV hS hl
  have hl : lv_has ls 4 [(0, .ref (ta 0)), (1, .int (nI k)), (2, .long pr)] := hl
  refine lv_lload_n hx hb d_Tube_noteProbe_0 rfl (lv_at hl 2 rfl) ?_
  refine lv_aload_n hx hb d_Tube_noteProbe_1 rfl (lv_at hl 0 rfl) ?_
  refine q_get 0 8 i_Tube rfl hx hb hts hown hE hP rfl (by decide) x_96 rfl d_Tube_noteProbe_2 ?_
  refine lv_iload_n hx hb d_Tube_noteProbe_5 rfl (lv_at hl 1 rfl) ?_
  refine q_lald (k := k) 9 hx hb hE hP rfl rfl (by omega) (by decide) d_Tube_noteProbe_6 ?_
  refine W.lcmp hx hb d_Tube_noteProbe_7 ?_
  refine q_cmp_le (tgt := 28) hx hb d_Tube_noteProbe_8 (by decide) (fun h_8 => ?_) (fun h_8 => ?_)
  · exact rW_v hx hb hr hlk hAe hS hP hD (Nat.le_of_ble_eq_true rfl) (Nat.le_of_ble_eq_true rfl) d_Tube_noteProbe_28 ⟨gr, gs, rfl, rfl, ⟨fun j => by rw [if_neg (fun z => absurd z.2 (Int64.not_lt.mpr h_8))], fun j => by rw [if_neg (fun z => absurd z.2 (Int64.not_lt.mpr h_8))]⟩⟩
  · refine lv_aload_n hx hb d_Tube_noteProbe_11 rfl (lv_at hl 0 rfl) ?_
    refine q_get 0 8 i_Tube rfl hx hb hts hown hE hP rfl (by decide) x_96 rfl d_Tube_noteProbe_12 ?_
    refine lv_iload_n hx hb d_Tube_noteProbe_15 rfl (lv_at hl 1 rfl) ?_
    refine lv_lload_n hx hb d_Tube_noteProbe_16 rfl (lv_at hl 2 rfl) ?_
    obtain ⟨gr_1, egr_1⟩ : ∃ g9 : Nat → Int64, g9 = vp_updL gr k pr := ⟨_, rfl⟩
    refine q_last (k := k) 9 (ws1 := [((ta 0), .inr (7, [.ref (ta 1), .int (nI n), .int (nI lft), .int (nI rgt), .int (nI ns), .ref (ta 2), .ref (ta 7), .ref (ta 8), .ref (ta 9), .ref (ta 10)])), ((ta 1), .inr (1, [.int (nI g), .int ign, .int part, .int heat])), ((ta 2), .inl (ct 4, 4, .inr (.inr (.inr (.inr (rw4 (ta 3) (ta 4) (ta 5) (ta 6))))))), ((ta 3), .inl (ct 1, 32, .inr (.inl mM))), ((ta 4), .inl (ct 1, 32, .inr (.inl mP))), ((ta 5), .inl (ct 1, 32, .inr (.inl mE))), ((ta 6), .inl (ct 1, 32, .inr (.inl mF))), ((ta 7), .inl (ct 1, 4, .inr (.inl td))), ((ta 8), .inl (ct 1, 6, .inr (.inl cm))), ((ta 9), .inl (ct 1, 32, .inr (.inl gr_1))), ((ta 10), .inl (ct 0, 32, .inl gs))]) egr_1 hx hb hE hP hD hS rfl rfl (by omega) (by decide) rfl d_Tube_noteProbe_17 (fun H locs hP hD hS => ?_)
    refine lv_aload_n hx hb d_Tube_noteProbe_18 rfl (lv_at hl 0 rfl) ?_
    refine q_get 0 9 i_Tube rfl hx hb hts hown hE hP rfl (by decide) x_97 rfl d_Tube_noteProbe_19 ?_
    refine lv_iload_n hx hb d_Tube_noteProbe_22 rfl (lv_at hl 1 rfl) ?_
    refine lv_aload_n hx hb d_Tube_noteProbe_23 rfl (lv_at hl 0 rfl) ?_
    refine q_get 0 4 i_Tube rfl hx hb hts hown hE hP rfl (by decide) x_87 rfl d_Tube_noteProbe_24 ?_
    obtain ⟨gs_1, egs_1⟩ : ∃ g9 : Nat → Int32, g9 = upd gs k (nI ns) := ⟨_, rfl⟩
    refine q_iast (k := k) 10 (ws1 := [((ta 0), .inr (7, [.ref (ta 1), .int (nI n), .int (nI lft), .int (nI rgt), .int (nI ns), .ref (ta 2), .ref (ta 7), .ref (ta 8), .ref (ta 9), .ref (ta 10)])), ((ta 1), .inr (1, [.int (nI g), .int ign, .int part, .int heat])), ((ta 2), .inl (ct 4, 4, .inr (.inr (.inr (.inr (rw4 (ta 3) (ta 4) (ta 5) (ta 6))))))), ((ta 3), .inl (ct 1, 32, .inr (.inl mM))), ((ta 4), .inl (ct 1, 32, .inr (.inl mP))), ((ta 5), .inl (ct 1, 32, .inr (.inl mE))), ((ta 6), .inl (ct 1, 32, .inr (.inl mF))), ((ta 7), .inl (ct 1, 4, .inr (.inl td))), ((ta 8), .inl (ct 1, 6, .inr (.inl cm))), ((ta 9), .inl (ct 1, 32, .inr (.inl gr_1))), ((ta 10), .inl (ct 0, 32, .inl gs_1))]) egs_1 hx hb hE hP hD hS rfl rfl (by omega) (by decide) rfl d_Tube_noteProbe_27 (fun H locs hP hD hS => ?_)
    exact rW_v hx hb hr hlk hAe hS hP hD (Nat.le_of_ble_eq_true rfl) (Nat.le_of_ble_eq_true rfl) d_Tube_noteProbe_28 ⟨gr_1, gs_1, rfl, rfl, ⟨fun j => by first | rw [if_neg (fun z => absurd z.2 (Int64.not_lt.mpr h_8))] | (by_cases q : j = k; rw [if_pos ⟨q, Int64.not_le.mp h_8⟩, q, egr_1, pk_uLs]; rw [if_neg (fun z => q z.1), egr_1, pk_uLn q]), fun j => by first | rw [if_neg (fun z => absurd z.2 (Int64.not_lt.mpr h_8))] | (by_cases q : j = k; rw [if_pos ⟨q, Int64.not_le.mp h_8⟩, q, egs_1, pk_us]; rw [if_neg (fun z => q z.1), egs_1, pk_un q])⟩⟩
