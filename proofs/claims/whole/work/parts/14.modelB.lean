set_option maxHeartbeats 4000000 in
set_option maxRecDepth 100000 in
theorem c_M_shape_ok (l : Launch) (D : va_G) (ct : Nat → ClassId) (st : Nat → Nat) (am : Nat → Nat) (th : Int32) (bu : Int64) (he : Int64) (S : Nat → Int64) (n1 : Nat) (l1 : Nat) (r1 : Nat) (hn1 : 2 ≤ n1 ∧ n1 ≤ 32) (hl1 : l1 ≤ 1) (hr1 : r1 ≤ 1) (sz : Nat) : Met l y_M_shape (wsy y_M_shape b_M_shape 4 (none)) (rmW 1 0 0 25) (PcW D ct st [.ref (am 0), .int (nI n1), .int (nI l1), .int (nI r1)] [((am 0), .inr (8, [.int th, .ref (am 1), .ref (am 2), .ref (am 3), .ref (am 4), .ref (am 5), .long bu, .long he, .ref (am 6), .ref (am 7)])), ((am 1), .inl (ct 1, 334, .inr (.inl S)))] sz) (QcW D [((am 0), .inr (8, [.int th, .ref (am 1), .ref (am 2), .ref (am 3), .ref (am 4), .ref (am 5), .long bu, .long he, .ref (am 6), .ref (am 7)])), ((am 1), .inl (ct 1, 334, .inr (.inl S)))] sz (fun v W1 => ∃ (s1 : Nat → Int64), v = none ∧ W1 = [((am 0), .inr (8, [.int 0, .ref (am 1), .ref (am 2), .ref (am 3), .ref (am 4), .ref (am 5), .long bu, .long he, .ref (am 6), .ref (am 7)])), ((am 1), .inl (ct 1, 334, .inr (.inl s1)))] ∧ (s1 4 = lN n1 ∧ s1 5 = lN l1 ∧ s1 6 = lN r1 ∧ s1 7 = 0 ∧ (∀ j, j < 32 → s1 (8 + j) = 1000 ∧ s1 (40 + j) = 0 ∧ s1 (72 + j) = 2000 ∧ s1 (104 + j) = 0 ∧ s1 (146 + j) = 0 ∧ s1 (178 + j) = 0) ∧ (∀ j, j < 6 → s1 (136 + j) = 0) ∧ (s1 142 = 1000 * lN n1 ∧ s1 143 = 0 ∧ s1 144 = 2000 * lN n1 ∧ s1 145 = 0) ∧ ∀ j, j < 4 ∨ 210 ≤ j → s1 j = S j))) 0 0 (va_A [((am 0), .inr (8, [.int th, .ref (am 1), .ref (am 2), .ref (am 3), .ref (am 4), .ref (am 5), .long bu, .long he, .ref (am 6), .ref (am 7)])), ((am 1), .inl (ct 1, 334, .inr (.inl S)))] sz) := by
  refine enterW (by decide) (Nat.le_of_ble_eq_true rfl) ?_
  intro p e s m args below meth c ls A hx hb hr hml hown hts hlk hin hsz hAe hP hD hA hE hV hS hl
  have hl : lv_has ls 4 [(0, .ref (am 0)), (1, .int (nI n1)), (2, .int (nI l1)), (3, .int (nI r1))] := hl
  refine lv_aload_n hx hb d_M_shape_0 rfl (lv_at hl 0 rfl) ?_
  refine lv_iload_n hx hb d_M_shape_1 rfl (lv_at hl 1 rfl) ?_
  refine lv_i2l (v := lN n1) hx hb d_M_shape_2 (nI_l (by omega)) ?_
  refine lv_ldc2 (v := 2) hx hb hown (hts _ (List.mem_cons_of_mem _ x_976)) d_M_shape_3 ?_
  refine lv_ldc2 (v := 32) hx hb hown (hts _ (List.mem_cons_of_mem _ x_977)) d_M_shape_6 ?_
  refine cRS (As := [.long (lN n1), .long 2, .long 32]) (rest := [.ref (am 0)]) K_M_in x_978 hx hb hml hown hts hE hV hS (c_M_in l D ct st (lN n1) 2 32) (fun k q h => by simp at h) rfl hl.1 rfl (Nat.le_of_ble_eq_true rfl) d_M_shape_9 (Nat.le_of_ble_eq_true rfl) (Nat.le_of_ble_eq_true rfl) ⟨Nat.le_of_ble_eq_true rfl, Nat.le_of_ble_eq_true rfl⟩ ?_
  refine q_ifeq_b (tgt := 39) hx hb d_M_shape_12 (by decide) (fun h_12 => absurd (w_inN (lo := 2) (hi := 32) (by omega) (by omega) (by omega)) h_12) (fun h_12 => ?_)
  refine lv_iload_n hx hb d_M_shape_15 rfl (lv_at hl 2 rfl) ?_
  refine lv_i2l (v := lN l1) hx hb d_M_shape_16 (nI_l (by omega)) ?_
  refine lv_lconst (v := 0) hx hb d_M_shape_17 (by decide) ?_
  refine lv_lconst (v := 1) hx hb d_M_shape_18 (by decide) ?_
  refine cRS (As := [.long (lN l1), .long 0, .long 1]) (rest := [.ref (am 0)]) K_M_in x_978 hx hb hml hown hts hE hV hS (c_M_in l D ct st (lN l1) 0 1) (fun k q h => by simp at h) rfl hl.1 rfl (Nat.le_of_ble_eq_true rfl) d_M_shape_19 (Nat.le_of_ble_eq_true rfl) (Nat.le_of_ble_eq_true rfl) ⟨Nat.le_of_ble_eq_true rfl, Nat.le_of_ble_eq_true rfl⟩ ?_
  refine q_ifeq_b (tgt := 39) hx hb d_M_shape_22 (by decide) (fun h_22 => absurd (w_inN (lo := 0) (hi := 1) (by omega) (by omega) (by omega)) h_22) (fun h_22 => ?_)
  refine lv_iload_n hx hb d_M_shape_25 rfl (lv_at hl 3 rfl) ?_
  refine lv_i2l (v := lN r1) hx hb d_M_shape_26 (nI_l (by omega)) ?_
  refine lv_lconst (v := 0) hx hb d_M_shape_27 (by decide) ?_
  refine lv_lconst (v := 1) hx hb d_M_shape_28 (by decide) ?_
  refine cRS (As := [.long (lN r1), .long 0, .long 1]) (rest := [.ref (am 0)]) K_M_in x_978 hx hb hml hown hts hE hV hS (c_M_in l D ct st (lN r1) 0 1) (fun k q h => by simp at h) rfl hl.1 rfl (Nat.le_of_ble_eq_true rfl) d_M_shape_29 (Nat.le_of_ble_eq_true rfl) (Nat.le_of_ble_eq_true rfl) ⟨Nat.le_of_ble_eq_true rfl, Nat.le_of_ble_eq_true rfl⟩ ?_
  refine q_ifeq_b (tgt := 39) hx hb d_M_shape_32 (by decide) (fun h_32 => absurd (w_inN (lo := 0) (hi := 1) (by omega) (by omega) (by omega)) h_32) (fun h_32 => ?_)
  refine lv_iconst (v := 0) hx hb d_M_shape_35 (by decide) ?_
  refine lv_goto (tgt := 40) hx hb d_M_shape_36 (by decide) ?_
  refine q_put (ty := .int) 0 0 (ws1 := [((am 0), .inr (8, [.int 0, .ref (am 1), .ref (am 2), .ref (am 3), .ref (am 4), .ref (am 5), .long bu, .long he, .ref (am 6), .ref (am 7)])), ((am 1), .inl (ct 1, 334, .inr (.inl S)))]) t_M i_M t_M_ok n_M rfl hx hb hts hown hE hP hD hS rfl (by decide) x_936 rfl (by decide +kernel) (rfl) rfl (Nat.le_of_ble_eq_true rfl) rfl d_M_shape_40 (fun H locs hP hD hS => ?_)
  refine lv_aload_n hx hb d_M_shape_43 rfl (lv_at hl 0 rfl) ?_
  refine q_get 0 0 i_M rfl hx hb hts hown hE hP rfl (by decide) x_936 rfl d_M_shape_44 ?_
  refine lv_if_ne (tgt := 57) hx hb d_M_shape_47 (by decide) (fun h => absurd h (by decide)) (fun _ => ?_)
  refine lv_aload_n hx hb d_M_shape_50 rfl (lv_at hl 0 rfl) ?_
  refine lv_iload_n hx hb d_M_shape_51 rfl (lv_at hl 1 rfl) ?_
  refine lv_iload_n hx hb d_M_shape_52 rfl (lv_at hl 2 rfl) ?_
  refine lv_iload_n hx hb d_M_shape_53 rfl (lv_at hl 3 rfl) ?_
  refine cWV (As := [.int (nI n1), .int (nI l1), .int (nI r1)]) (rest := []) (q9 := 0) (ci := 8) K_M_shapes x_930 hx hb hml hown hts hE hV hS (c_M_shapes l D ct st am 0 bu he S n1 l1 r1 (by omega) (by omega) (by omega) _) hP hD hA [0, 1] [] (wr := []) rfl rfl (by decide) (by decide) (by decide) rfl hP rfl rfl hl.1 rfl (Nat.le_of_ble_eq_true rfl) d_M_shape_54 (Nat.le_of_ble_eq_true rfl) (Nat.le_of_ble_eq_true rfl) ⟨Nat.le_of_ble_eq_true rfl, Nat.le_of_ble_eq_true rfl⟩ (fun v W1 H locs hpost hP hD hS => ?_)
  obtain ⟨s1_1, rfl, rfl, hq_54⟩ := hpost
  have hP : va_P D classes [((am 0), .inr (8, [.int 0, .ref (am 1), .ref (am 2), .ref (am 3), .ref (am 4), .ref (am 5), .long bu, .long he, .ref (am 6), .ref (am 7)])), ((am 1), .inl (ct 1, 334, .inr (.inl s1_1)))] H := hP
  have hD : va_D A [((am 0), .inr (8, [.int 0, .ref (am 1), .ref (am 2), .ref (am 3), .ref (am 4), .ref (am 5), .long bu, .long he, .ref (am 6), .ref (am 7)])), ((am 1), .inl (ct 1, 334, .inr (.inl s1_1)))] := hD
  exact rW_v hx hb hr hlk hAe hS hP hD (Nat.le_of_ble_eq_true rfl) (Nat.le_of_ble_eq_true rfl) d_M_shape_57 ⟨s1_1, rfl, rfl, hq_54⟩
set_option maxHeartbeats 4000000 in
set_option maxRecDepth 100000 in
theorem c_M_shape_bad (l : Launch) (D : va_G) (ct : Nat → ClassId) (st : Nat → Nat) (am : Nat → Nat) (th : Int32) (bu : Int64) (he : Int64) (S : Nat → Int64) (a0 : Int32) (a1 : Int32) (a2 : Int32) (hb0 : ¬ (w_in a0.toInt64 2 32 ∧ w_in a1.toInt64 0 1 ∧ w_in a2.toInt64 0 1)) (sz : Nat) : Met l y_M_shape (wsy y_M_shape b_M_shape 4 (none)) (rmW 1 0 0 25) (PcW D ct st [.ref (am 0), .int a0, .int a1, .int a2] [((am 0), .inr (8, [.int th, .ref (am 1), .ref (am 2), .ref (am 3), .ref (am 4), .ref (am 5), .long bu, .long he, .ref (am 6), .ref (am 7)])), ((am 1), .inl (ct 1, 334, .inr (.inl S)))] sz) (QcW D [((am 0), .inr (8, [.int th, .ref (am 1), .ref (am 2), .ref (am 3), .ref (am 4), .ref (am 5), .long bu, .long he, .ref (am 6), .ref (am 7)])), ((am 1), .inl (ct 1, 334, .inr (.inl S)))] sz (fun v W1 => v = none ∧ W1 = [((am 0), .inr (8, [.int 1, .ref (am 1), .ref (am 2), .ref (am 3), .ref (am 4), .ref (am 5), .long bu, .long he, .ref (am 6), .ref (am 7)])), ((am 1), .inl (ct 1, 334, .inr (.inl S)))] ∧ (True))) 0 0 (va_A [((am 0), .inr (8, [.int th, .ref (am 1), .ref (am 2), .ref (am 3), .ref (am 4), .ref (am 5), .long bu, .long he, .ref (am 6), .ref (am 7)])), ((am 1), .inl (ct 1, 334, .inr (.inl S)))] sz) := by
  refine enterW (by decide) (Nat.le_of_ble_eq_true rfl) ?_
  intro p e s m args below meth c ls A hx hb hr hml hown hts hlk hin hsz hAe hP hD hA hE hV hS hl
  have hl : lv_has ls 4 [(0, .ref (am 0)), (1, .int a0), (2, .int a1), (3, .int a2)] := hl
  refine lv_aload_n hx hb d_M_shape_0 rfl (lv_at hl 0 rfl) ?_
  refine lv_iload_n hx hb d_M_shape_1 rfl (lv_at hl 1 rfl) ?_
  refine lv_i2l hx hb d_M_shape_2 rfl ?_
  refine lv_ldc2 (v := 2) hx hb hown (hts _ (List.mem_cons_of_mem _ x_976)) d_M_shape_3 ?_
  refine lv_ldc2 (v := 32) hx hb hown (hts _ (List.mem_cons_of_mem _ x_977)) d_M_shape_6 ?_
  refine cRS (As := [.long a0.toInt64, .long 2, .long 32]) (rest := [.ref (am 0)]) K_M_in x_978 hx hb hml hown hts hE hV hS (c_M_in l D ct st a0.toInt64 2 32) (fun k q h => by simp at h) rfl hl.1 rfl (Nat.le_of_ble_eq_true rfl) d_M_shape_9 (Nat.le_of_ble_eq_true rfl) (Nat.le_of_ble_eq_true rfl) ⟨Nat.le_of_ble_eq_true rfl, Nat.le_of_ble_eq_true rfl⟩ ?_
  refine q_ifeq_b (tgt := 39) hx hb d_M_shape_12 (by decide) (fun h_12 => ?_) (fun h_12 => ?_)
  · refine lv_iconst (v := 1) hx hb d_M_shape_39 (by decide) ?_
    refine q_put (ty := .int) 0 0 (ws1 := [((am 0), .inr (8, [.int 1, .ref (am 1), .ref (am 2), .ref (am 3), .ref (am 4), .ref (am 5), .long bu, .long he, .ref (am 6), .ref (am 7)])), ((am 1), .inl (ct 1, 334, .inr (.inl S)))]) t_M i_M t_M_ok n_M rfl hx hb hts hown hE hP hD hS rfl (by decide) x_936 rfl (by decide +kernel) (rfl) rfl (Nat.le_of_ble_eq_true rfl) rfl d_M_shape_40 (fun H locs hP hD hS => ?_)
    refine lv_aload_n hx hb d_M_shape_43 rfl (lv_at hl 0 rfl) ?_
    refine q_get 0 0 i_M rfl hx hb hts hown hE hP rfl (by decide) x_936 rfl d_M_shape_44 ?_
    refine lv_if_ne (tgt := 57) hx hb d_M_shape_47 (by decide) (fun _ => ?_) (fun h => absurd h (by decide))
    exact rW_v hx hb hr hlk hAe hS hP hD (Nat.le_of_ble_eq_true rfl) (Nat.le_of_ble_eq_true rfl) d_M_shape_57 ⟨rfl, rfl, trivial⟩
  · refine lv_iload_n hx hb d_M_shape_15 rfl (lv_at hl 2 rfl) ?_
    refine lv_i2l hx hb d_M_shape_16 rfl ?_
    refine lv_lconst (v := 0) hx hb d_M_shape_17 (by decide) ?_
    refine lv_lconst (v := 1) hx hb d_M_shape_18 (by decide) ?_
    refine cRS (As := [.long a1.toInt64, .long 0, .long 1]) (rest := [.ref (am 0)]) K_M_in x_978 hx hb hml hown hts hE hV hS (c_M_in l D ct st a1.toInt64 0 1) (fun k q h => by simp at h) rfl hl.1 rfl (Nat.le_of_ble_eq_true rfl) d_M_shape_19 (Nat.le_of_ble_eq_true rfl) (Nat.le_of_ble_eq_true rfl) ⟨Nat.le_of_ble_eq_true rfl, Nat.le_of_ble_eq_true rfl⟩ ?_
    refine q_ifeq_b (tgt := 39) hx hb d_M_shape_22 (by decide) (fun h_22 => ?_) (fun h_22 => ?_)
    · refine lv_iconst (v := 1) hx hb d_M_shape_39 (by decide) ?_
      refine q_put (ty := .int) 0 0 (ws1 := [((am 0), .inr (8, [.int 1, .ref (am 1), .ref (am 2), .ref (am 3), .ref (am 4), .ref (am 5), .long bu, .long he, .ref (am 6), .ref (am 7)])), ((am 1), .inl (ct 1, 334, .inr (.inl S)))]) t_M i_M t_M_ok n_M rfl hx hb hts hown hE hP hD hS rfl (by decide) x_936 rfl (by decide +kernel) (rfl) rfl (Nat.le_of_ble_eq_true rfl) rfl d_M_shape_40 (fun H locs hP hD hS => ?_)
      refine lv_aload_n hx hb d_M_shape_43 rfl (lv_at hl 0 rfl) ?_
      refine q_get 0 0 i_M rfl hx hb hts hown hE hP rfl (by decide) x_936 rfl d_M_shape_44 ?_
      refine lv_if_ne (tgt := 57) hx hb d_M_shape_47 (by decide) (fun _ => ?_) (fun h => absurd h (by decide))
      exact rW_v hx hb hr hlk hAe hS hP hD (Nat.le_of_ble_eq_true rfl) (Nat.le_of_ble_eq_true rfl) d_M_shape_57 ⟨rfl, rfl, trivial⟩
    · refine lv_iload_n hx hb d_M_shape_25 rfl (lv_at hl 3 rfl) ?_
      refine lv_i2l hx hb d_M_shape_26 rfl ?_
      refine lv_lconst (v := 0) hx hb d_M_shape_27 (by decide) ?_
      refine lv_lconst (v := 1) hx hb d_M_shape_28 (by decide) ?_
      refine cRS (As := [.long a2.toInt64, .long 0, .long 1]) (rest := [.ref (am 0)]) K_M_in x_978 hx hb hml hown hts hE hV hS (c_M_in l D ct st a2.toInt64 0 1) (fun k q h => by simp at h) rfl hl.1 rfl (Nat.le_of_ble_eq_true rfl) d_M_shape_29 (Nat.le_of_ble_eq_true rfl) (Nat.le_of_ble_eq_true rfl) ⟨Nat.le_of_ble_eq_true rfl, Nat.le_of_ble_eq_true rfl⟩ ?_
      refine q_ifeq_b (tgt := 39) hx hb d_M_shape_32 (by decide) (fun h_32 => ?_) (fun h_32 => absurd ⟨h_12, h_22, h_32⟩ hb0)
      refine lv_iconst (v := 1) hx hb d_M_shape_39 (by decide) ?_
      refine q_put (ty := .int) 0 0 (ws1 := [((am 0), .inr (8, [.int 1, .ref (am 1), .ref (am 2), .ref (am 3), .ref (am 4), .ref (am 5), .long bu, .long he, .ref (am 6), .ref (am 7)])), ((am 1), .inl (ct 1, 334, .inr (.inl S)))]) t_M i_M t_M_ok n_M rfl hx hb hts hown hE hP hD hS rfl (by decide) x_936 rfl (by decide +kernel) (rfl) rfl (Nat.le_of_ble_eq_true rfl) rfl d_M_shape_40 (fun H locs hP hD hS => ?_)
      refine lv_aload_n hx hb d_M_shape_43 rfl (lv_at hl 0 rfl) ?_
      refine q_get 0 0 i_M rfl hx hb hts hown hE hP rfl (by decide) x_936 rfl d_M_shape_44 ?_
      refine lv_if_ne (tgt := 57) hx hb d_M_shape_47 (by decide) (fun _ => ?_) (fun h => absurd h (by decide))
      exact rW_v hx hb hr hlk hAe hS hP hD (Nat.le_of_ble_eq_true rfl) (Nat.le_of_ble_eq_true rfl) d_M_shape_57 ⟨rfl, rfl, trivial⟩
set_option maxHeartbeats 4000000 in
set_option maxRecDepth 100000 in
theorem c_M_gas_ok (l : Launch) (D : va_G) (ct : Nat → ClassId) (st : Nat → Nat) (am : Nat → Nat) (th : Int32) (bu : Int64) (he : Int64) (S : Nat → Int64) (g1 : Nat) (hg1 : g1 < 3) (sz : Nat) : Met l y_M_gas (wsy y_M_gas b_M_gas 2 (none)) (rmW 1 0 0 25) (PcW D ct st [.ref (am 0), .int (nI g1)] [((am 0), .inr (8, [.int th, .ref (am 1), .ref (am 2), .ref (am 3), .ref (am 4), .ref (am 5), .long bu, .long he, .ref (am 6), .ref (am 7)])), ((am 1), .inl (ct 1, 334, .inr (.inl S)))] sz) (QcW D [((am 0), .inr (8, [.int th, .ref (am 1), .ref (am 2), .ref (am 3), .ref (am 4), .ref (am 5), .long bu, .long he, .ref (am 6), .ref (am 7)])), ((am 1), .inl (ct 1, 334, .inr (.inl S)))] sz (fun v W1 => ∃ (s1 : Nat → Int64), v = none ∧ W1 = [((am 0), .inr (8, [.int 0, .ref (am 1), .ref (am 2), .ref (am 3), .ref (am 4), .ref (am 5), .long bu, .long he, .ref (am 6), .ref (am 7)])), ((am 1), .inl (ct 1, 334, .inr (.inl s1)))] ∧ (s1 = vp_updL S 0 (lN g1)))) 0 0 (va_A [((am 0), .inr (8, [.int th, .ref (am 1), .ref (am 2), .ref (am 3), .ref (am 4), .ref (am 5), .long bu, .long he, .ref (am 6), .ref (am 7)])), ((am 1), .inl (ct 1, 334, .inr (.inl S)))] sz) := by
  refine enterW (by decide) (Nat.le_of_ble_eq_true rfl) ?_
  intro p e s m args below meth c ls A hx hb hr hml hown hts hlk hin hsz hAe hP hD hA hE hV hS hl
  have hl : lv_has ls 2 [(0, .ref (am 0)), (1, .int (nI g1))] := hl
  refine lv_aload_n hx hb d_M_gas_0 rfl (lv_at hl 0 rfl) ?_
  refine lv_iload_n hx hb d_M_gas_1 rfl (lv_at hl 1 rfl) ?_
  refine lv_i2l (v := lN g1) hx hb d_M_gas_2 (nI_l (by omega)) ?_
  refine lv_lconst (v := 0) hx hb d_M_gas_3 (by decide) ?_
  refine lv_ldc2 (v := 2) hx hb hown (hts _ (List.mem_cons_of_mem _ x_976)) d_M_gas_4 ?_
  refine cRS (As := [.long (lN g1), .long 0, .long 2]) (rest := [.ref (am 0)]) K_M_in x_978 hx hb hml hown hts hE hV hS (c_M_in l D ct st (lN g1) 0 2) (fun k q h => by simp at h) rfl hl.1 rfl (Nat.le_of_ble_eq_true rfl) d_M_gas_7 (Nat.le_of_ble_eq_true rfl) (Nat.le_of_ble_eq_true rfl) ⟨Nat.le_of_ble_eq_true rfl, Nat.le_of_ble_eq_true rfl⟩ ?_
  refine q_ifeq_b (tgt := 17) hx hb d_M_gas_10 (by decide) (fun h_10 => absurd (w_inN (lo := 0) (hi := 2) (by omega) (by omega) (by omega)) h_10) (fun h_10 => ?_)
  refine lv_iconst (v := 0) hx hb d_M_gas_13 (by decide) ?_
  refine lv_goto (tgt := 18) hx hb d_M_gas_14 (by decide) ?_
  refine q_put (ty := .int) 0 0 (ws1 := [((am 0), .inr (8, [.int 0, .ref (am 1), .ref (am 2), .ref (am 3), .ref (am 4), .ref (am 5), .long bu, .long he, .ref (am 6), .ref (am 7)])), ((am 1), .inl (ct 1, 334, .inr (.inl S)))]) t_M i_M t_M_ok n_M rfl hx hb hts hown hE hP hD hS rfl (by decide) x_936 rfl (by decide +kernel) (rfl) rfl (Nat.le_of_ble_eq_true rfl) rfl d_M_gas_18 (fun H locs hP hD hS => ?_)
  refine lv_aload_n hx hb d_M_gas_21 rfl (lv_at hl 0 rfl) ?_
  refine q_get 0 0 i_M rfl hx hb hts hown hE hP rfl (by decide) x_936 rfl d_M_gas_22 ?_
  refine lv_if_ne (tgt := 36) hx hb d_M_gas_25 (by decide) (fun h => absurd h (by decide)) (fun _ => ?_)
  refine lv_aload_n hx hb d_M_gas_28 rfl (lv_at hl 0 rfl) ?_
  refine q_get 0 1 i_M rfl hx hb hts hown hE hP rfl (by decide) x_937 rfl d_M_gas_29 ?_
  refine lv_iconst (v := 0) hx hb d_M_gas_32 (by decide) ?_
  refine lv_iload_n hx hb d_M_gas_33 rfl (lv_at hl 1 rfl) ?_
  refine lv_i2l (v := lN g1) hx hb d_M_gas_34 (nI_l (by omega)) ?_
  obtain ⟨s_1, es_1⟩ : ∃ g9 : Nat → Int64, g9 = vp_updL S 0 (lN g1) := ⟨_, rfl⟩
  refine q_last (k := 0) 1 (ws1 := [((am 0), .inr (8, [.int 0, .ref (am 1), .ref (am 2), .ref (am 3), .ref (am 4), .ref (am 5), .long bu, .long he, .ref (am 6), .ref (am 7)])), ((am 1), .inl (ct 1, 334, .inr (.inl s_1)))]) es_1 hx hb hE hP hD hS rfl rfl (by omega) (by decide) rfl d_M_gas_35 (fun H locs hP hD hS => ?_)
  exact rW_v hx hb hr hlk hAe hS hP hD (Nat.le_of_ble_eq_true rfl) (Nat.le_of_ble_eq_true rfl) d_M_gas_36 ⟨s_1, rfl, rfl, es_1⟩
set_option maxHeartbeats 4000000 in
set_option maxRecDepth 100000 in
theorem c_M_gas_bad (l : Launch) (D : va_G) (ct : Nat → ClassId) (st : Nat → Nat) (am : Nat → Nat) (th : Int32) (bu : Int64) (he : Int64) (S : Nat → Int64) (a0 : Int32) (hb0 : ¬ w_in a0.toInt64 0 2) (sz : Nat) : Met l y_M_gas (wsy y_M_gas b_M_gas 2 (none)) (rmW 1 0 0 25) (PcW D ct st [.ref (am 0), .int a0] [((am 0), .inr (8, [.int th, .ref (am 1), .ref (am 2), .ref (am 3), .ref (am 4), .ref (am 5), .long bu, .long he, .ref (am 6), .ref (am 7)])), ((am 1), .inl (ct 1, 334, .inr (.inl S)))] sz) (QcW D [((am 0), .inr (8, [.int th, .ref (am 1), .ref (am 2), .ref (am 3), .ref (am 4), .ref (am 5), .long bu, .long he, .ref (am 6), .ref (am 7)])), ((am 1), .inl (ct 1, 334, .inr (.inl S)))] sz (fun v W1 => v = none ∧ W1 = [((am 0), .inr (8, [.int 1, .ref (am 1), .ref (am 2), .ref (am 3), .ref (am 4), .ref (am 5), .long bu, .long he, .ref (am 6), .ref (am 7)])), ((am 1), .inl (ct 1, 334, .inr (.inl S)))] ∧ (True))) 0 0 (va_A [((am 0), .inr (8, [.int th, .ref (am 1), .ref (am 2), .ref (am 3), .ref (am 4), .ref (am 5), .long bu, .long he, .ref (am 6), .ref (am 7)])), ((am 1), .inl (ct 1, 334, .inr (.inl S)))] sz) := by
  refine enterW (by decide) (Nat.le_of_ble_eq_true rfl) ?_
  intro p e s m args below meth c ls A hx hb hr hml hown hts hlk hin hsz hAe hP hD hA hE hV hS hl
  have hl : lv_has ls 2 [(0, .ref (am 0)), (1, .int a0)] := hl
  refine lv_aload_n hx hb d_M_gas_0 rfl (lv_at hl 0 rfl) ?_
  refine lv_iload_n hx hb d_M_gas_1 rfl (lv_at hl 1 rfl) ?_
  refine lv_i2l hx hb d_M_gas_2 rfl ?_
  refine lv_lconst (v := 0) hx hb d_M_gas_3 (by decide) ?_
  refine lv_ldc2 (v := 2) hx hb hown (hts _ (List.mem_cons_of_mem _ x_976)) d_M_gas_4 ?_
  refine cRS (As := [.long a0.toInt64, .long 0, .long 2]) (rest := [.ref (am 0)]) K_M_in x_978 hx hb hml hown hts hE hV hS (c_M_in l D ct st a0.toInt64 0 2) (fun k q h => by simp at h) rfl hl.1 rfl (Nat.le_of_ble_eq_true rfl) d_M_gas_7 (Nat.le_of_ble_eq_true rfl) (Nat.le_of_ble_eq_true rfl) ⟨Nat.le_of_ble_eq_true rfl, Nat.le_of_ble_eq_true rfl⟩ ?_
  refine q_ifeq_b (tgt := 17) hx hb d_M_gas_10 (by decide) (fun h_10 => ?_) (fun h_10 => absurd h_10 hb0)
  refine lv_iconst (v := 1) hx hb d_M_gas_17 (by decide) ?_
  refine q_put (ty := .int) 0 0 (ws1 := [((am 0), .inr (8, [.int 1, .ref (am 1), .ref (am 2), .ref (am 3), .ref (am 4), .ref (am 5), .long bu, .long he, .ref (am 6), .ref (am 7)])), ((am 1), .inl (ct 1, 334, .inr (.inl S)))]) t_M i_M t_M_ok n_M rfl hx hb hts hown hE hP hD hS rfl (by decide) x_936 rfl (by decide +kernel) (rfl) rfl (Nat.le_of_ble_eq_true rfl) rfl d_M_gas_18 (fun H locs hP hD hS => ?_)
  refine lv_aload_n hx hb d_M_gas_21 rfl (lv_at hl 0 rfl) ?_
  refine q_get 0 0 i_M rfl hx hb hts hown hE hP rfl (by decide) x_936 rfl d_M_gas_22 ?_
  refine lv_if_ne (tgt := 36) hx hb d_M_gas_25 (by decide) (fun _ => ?_) (fun h => absurd h (by decide))
  exact rW_v hx hb hr hlk hAe hS hP hD (Nat.le_of_ble_eq_true rfl) (Nat.le_of_ble_eq_true rfl) d_M_gas_36 ⟨rfl, rfl, trivial⟩
set_option maxHeartbeats 4000000 in
set_option maxRecDepth 100000 in
theorem c_M_tells (l : Launch) (D : va_G) (ct : Nat → ClassId) (st : Nat → Nat) (am : Nat → Nat) (th : Int32) (bu : Int64) (he : Int64) (S : Nat → Int64) (wh : Nat) (at9 : Nat) (val : Int64) (hw : wh < 4) (ha : at9 < 136) (sz : Nat) : Met l y_M_tells (wsy y_M_tells b_M_tells 5 (none)) (rmW 0 0 0 0) (PcW D ct st [.ref (am 0), .int (nI wh), .int (nI at9), .long val] [((am 0), .inr (8, [.int th, .ref (am 1), .ref (am 2), .ref (am 3), .ref (am 4), .ref (am 5), .long bu, .long he, .ref (am 6), .ref (am 7)])), ((am 1), .inl (ct 1, 334, .inr (.inl S)))] sz) (QcW D [((am 0), .inr (8, [.int th, .ref (am 1), .ref (am 2), .ref (am 3), .ref (am 4), .ref (am 5), .long bu, .long he, .ref (am 6), .ref (am 7)])), ((am 1), .inl (ct 1, 334, .inr (.inl S)))] sz (fun v W1 => ∃ (s1 : Nat → Int64), v = none ∧ W1 = [((am 0), .inr (8, [.int th, .ref (am 1), .ref (am 2), .ref (am 3), .ref (am 4), .ref (am 5), .long bu, .long he, .ref (am 6), .ref (am 7)])), ((am 1), .inl (ct 1, 334, .inr (.inl s1)))] ∧ (s1 (142 + wh) = S (142 + wh) + (val - S at9) ∧ s1 at9 = val ∧ ∀ j, j ≠ 142 + wh → j ≠ at9 → s1 j = S j))) 0 0 (va_A [((am 0), .inr (8, [.int th, .ref (am 1), .ref (am 2), .ref (am 3), .ref (am 4), .ref (am 5), .long bu, .long he, .ref (am 6), .ref (am 7)])), ((am 1), .inl (ct 1, 334, .inr (.inl S)))] sz) := by
  refine enterW (by decide) (Nat.le_of_ble_eq_true rfl) ?_
  intro p e s m args below meth c ls A hx hb hr hml hown hts hlk hin hsz hAe hP hD hA hE hV hS hl
  have hl : lv_has ls 5 [(0, .ref (am 0)), (1, .int (nI wh)), (2, .int (nI at9)), (3, .long val)] := hl
  refine lv_aload_n hx hb d_M_tells_0 rfl (lv_at hl 0 rfl) ?_
  refine q_get 0 1 i_M rfl hx hb hts hown hE hP rfl (by decide) x_937 rfl d_M_tells_1 ?_
  refine lv_sipush (v := 142) hx hb d_M_tells_4 (by decide) ?_
  refine lv_iload_n hx hb d_M_tells_7 rfl (lv_at hl 1 rfl) ?_
  refine q_iadd (v := nI (142 + wh)) hx hb d_M_tells_8 (nI_add 142 wh) ?_
  refine lv_dup2_11 hx hb d_M_tells_9 rfl rfl ?_
  refine q_lald (k := 142 + wh) 1 hx hb hE hP rfl rfl (by omega) (by decide) d_M_tells_10 ?_
  refine lv_lload_n hx hb d_M_tells_11 rfl (lv_at hl 3 rfl) ?_
  refine lv_aload_n hx hb d_M_tells_12 rfl (lv_at hl 0 rfl) ?_
  refine q_get 0 1 i_M rfl hx hb hts hown hE hP rfl (by decide) x_937 rfl d_M_tells_13 ?_
  refine lv_iload_n hx hb d_M_tells_16 rfl (lv_at hl 2 rfl) ?_
  refine q_lald (k := at9) 1 hx hb hE hP rfl rfl (by omega) (by decide) d_M_tells_17 ?_
  refine q_topl (v := S at9) (rfl) ?_
  refine lv_lsub hx hb d_M_tells_18 ?_
  refine lv_ladd hx hb d_M_tells_19 ?_
  obtain ⟨s_1, es_1⟩ : ∃ g9 : Nat → Int64, g9 = vp_updL S (142 + wh) ((S (142 + wh)) + (val - (S at9))) := ⟨_, rfl⟩
  refine q_last (k := 142 + wh) 1 (ws1 := [((am 0), .inr (8, [.int th, .ref (am 1), .ref (am 2), .ref (am 3), .ref (am 4), .ref (am 5), .long bu, .long he, .ref (am 6), .ref (am 7)])), ((am 1), .inl (ct 1, 334, .inr (.inl s_1)))]) es_1 hx hb hE hP hD hS rfl rfl (by omega) (by decide) rfl d_M_tells_20 (fun H locs hP hD hS => ?_)
  refine lv_aload_n hx hb d_M_tells_21 rfl (lv_at hl 0 rfl) ?_
  refine q_get 0 1 i_M rfl hx hb hts hown hE hP rfl (by decide) x_937 rfl d_M_tells_22 ?_
  refine lv_iload_n hx hb d_M_tells_25 rfl (lv_at hl 2 rfl) ?_
  refine lv_lload_n hx hb d_M_tells_26 rfl (lv_at hl 3 rfl) ?_
  obtain ⟨s_2, es_2⟩ : ∃ g9 : Nat → Int64, g9 = vp_updL s_1 at9 val := ⟨_, rfl⟩
  refine q_last (k := at9) 1 (ws1 := [((am 0), .inr (8, [.int th, .ref (am 1), .ref (am 2), .ref (am 3), .ref (am 4), .ref (am 5), .long bu, .long he, .ref (am 6), .ref (am 7)])), ((am 1), .inl (ct 1, 334, .inr (.inl s_2)))]) es_2 hx hb hE hP hD hS rfl rfl (by omega) (by decide) rfl d_M_tells_27 (fun H locs hP hD hS => ?_)
  exact rW_v hx hb hr hlk hAe hS hP hD (Nat.le_of_ble_eq_true rfl) (Nat.le_of_ble_eq_true rfl) d_M_tells_28 ⟨s_2, rfl, rfl, ⟨by simp (disch := omega) only [es_2, es_1, pk_uLn, pk_uLs, pk_us, pk_un], by simp (disch := omega) only [es_2, es_1, pk_uLn, pk_uLs, pk_us, pk_un], fun j h1 h2 => by simp (disch := omega) only [es_2, es_1, pk_uLn, pk_uLs, pk_us, pk_un]⟩⟩
theorem cell_in {S4 : Int64} {k n : Nat} (h : S4 = lN n) (hk : k < n) (hn : n ≤ 32) : w_in (nI k).toInt64 0 (S4 - 1) := by
  rw [nI_l (by omega), h, show (1 : Int64) = lN 1 from rfl, lN_sub (by omega)]
  exact w_inN (lo := 0) (by omega) (by omega) (by omega)
theorem sub_add9 (a b c : Int64) : a - b - c = a - (b + c) := by grind
theorem eq_sub9 {a b : Int64} (h : a - b = 0) : a = b := by grind
theorem nlt0 {z : Int64} (h : 0 ≤ z.toInt) : ¬ z < 0 := by rw [lt0]; omega
set_option maxHeartbeats 4000000 in
set_option maxRecDepth 100000 in
theorem c_M_cell_ok (l : Launch) (D : va_G) (ct : Nat → ClassId) (st : Nat → Nat) (am : Nat → Nat) (th : Int32) (bu : Int64) (he : Int64) (S : Nat → Int64) (n : Nat) (k : Nat) (ma : Nat) (po : Int32) (en : Nat) (fu : Nat) (hS4 : S 4 = lN n) (hn : n ≤ 32) (hk : k < n) (hma : 1 ≤ ma ∧ ma ≤ 1000000) (hpo : w_in po.toInt64 (-10000000) 10000000) (hen : en ≤ 1000000000) (hfu : fu ≤ ma) (hwi : 0 ≤ (w_within (lN ma) po.toInt64 (lN en)).toInt) (sz : Nat) : Met l y_M_cell (wsy y_M_cell b_M_cell 7 (none)) (rmW 2 0 0 50) (PcW D ct st [.ref (am 0), .int (nI k), .int (nI ma), .int po, .int (nI en), .int (nI fu)] [((am 0), .inr (8, [.int th, .ref (am 1), .ref (am 2), .ref (am 3), .ref (am 4), .ref (am 5), .long bu, .long he, .ref (am 6), .ref (am 7)])), ((am 1), .inl (ct 1, 334, .inr (.inl S)))] sz) (QcW D [((am 0), .inr (8, [.int th, .ref (am 1), .ref (am 2), .ref (am 3), .ref (am 4), .ref (am 5), .long bu, .long he, .ref (am 6), .ref (am 7)])), ((am 1), .inl (ct 1, 334, .inr (.inl S)))] sz (fun v W1 => ∃ (s1 : Nat → Int64), v = none ∧ W1 = [((am 0), .inr (8, [.int 0, .ref (am 1), .ref (am 2), .ref (am 3), .ref (am 4), .ref (am 5), .long bu, .long he, .ref (am 6), .ref (am 7)])), ((am 1), .inl (ct 1, 334, .inr (.inl s1)))] ∧ ((s1 142 = S 142 + (lN ma - S (8 + k)) ∧ s1 143 = S 143 + (po.toInt64 - S (40 + k)) ∧ s1 144 = S 144 + (lN en - S (72 + k)) ∧ s1 145 = S 145 + (lN fu - S (104 + k))) ∧ (s1 (8 + k) = lN ma ∧ s1 (40 + k) = po.toInt64 ∧ s1 (72 + k) = lN en ∧ s1 (104 + k) = lN fu) ∧ ∀ j, j ≠ 142 → j ≠ 143 → j ≠ 144 → j ≠ 145 → j ≠ 8 + k → j ≠ 40 + k → j ≠ 72 + k → j ≠ 104 + k → s1 j = S j))) 0 0 (va_A [((am 0), .inr (8, [.int th, .ref (am 1), .ref (am 2), .ref (am 3), .ref (am 4), .ref (am 5), .long bu, .long he, .ref (am 6), .ref (am 7)])), ((am 1), .inl (ct 1, 334, .inr (.inl S)))] sz) := by
  refine enterW (by decide) (Nat.le_of_ble_eq_true rfl) ?_
  intro p e s m args below meth c ls A hx hb hr hml hown hts hlk hin hsz hAe hP hD hA hE hV hS hl
  have hl : lv_has ls 7 [(0, .ref (am 0)), (1, .int (nI k)), (2, .int (nI ma)), (3, .int po), (4, .int (nI en)), (5, .int (nI fu))] := hl
  refine lv_aload_n hx hb d_M_cell_0 rfl (lv_at hl 0 rfl) ?_
  refine lv_iload_n hx hb d_M_cell_1 rfl (lv_at hl 1 rfl) ?_
  refine cRV (As := [.int (nI k)]) (rest := []) (q9 := 0) (ci := 8) K_M_isCell x_989 hx hb hml hown hts hE hV hS (c_M_isCell l D ct st am th bu he S (nI k)) hP rfl hP rfl rfl hl.1 rfl (Nat.le_of_ble_eq_true rfl) d_M_cell_2 (Nat.le_of_ble_eq_true rfl) (Nat.le_of_ble_eq_true rfl) ⟨Nat.le_of_ble_eq_true rfl, Nat.le_of_ble_eq_true rfl⟩ ?_
  refine q_ifne_b (tgt := 14) hx hb d_M_cell_5 (by decide) (fun h_5 => ?_) (fun h_5 => absurd (cell_in hS4 hk hn) h_5)
  refine lv_iload_n hx hb d_M_cell_14 rfl (lv_at hl 2 rfl) ?_
  refine lv_i2l (v := lN ma) hx hb d_M_cell_15 (nI_l (by omega)) ?_
  refine lv_lconst (v := 1) hx hb d_M_cell_16 (by decide) ?_
  refine lv_ldc2 (v := 1000000) hx hb hown (hts _ (List.mem_cons_of_mem _ x_993)) d_M_cell_17 ?_
  refine cRS (As := [.long (lN ma), .long 1, .long 1000000]) (rest := []) K_M_in x_978 hx hb hml hown hts hE hV hS (c_M_in l D ct st (lN ma) 1 1000000) (fun k q h => by simp at h) rfl hl.1 rfl (Nat.le_of_ble_eq_true rfl) d_M_cell_20 (Nat.le_of_ble_eq_true rfl) (Nat.le_of_ble_eq_true rfl) ⟨Nat.le_of_ble_eq_true rfl, Nat.le_of_ble_eq_true rfl⟩ ?_
  refine q_ifeq_b (tgt := 69) hx hb d_M_cell_23 (by decide) (fun h_23 => absurd (w_inN (lo := 1) (hi := 1000000) (by omega) (by omega) (by omega)) h_23) (fun h_23 => ?_)
  refine lv_iload_n hx hb d_M_cell_26 rfl (lv_at hl 3 rfl) ?_
  refine lv_i2l hx hb d_M_cell_27 rfl ?_
  refine lv_ldc2 (v := (-10000000)) hx hb hown (hts _ (List.mem_cons_of_mem _ x_994)) d_M_cell_28 ?_
  refine lv_ldc2 (v := 10000000) hx hb hown (hts _ (List.mem_cons_of_mem _ x_995)) d_M_cell_31 ?_
  refine cRS (As := [.long po.toInt64, .long (-10000000), .long 10000000]) (rest := []) K_M_in x_978 hx hb hml hown hts hE hV hS (c_M_in l D ct st po.toInt64 (-10000000) 10000000) (fun k q h => by simp at h) rfl hl.1 rfl (Nat.le_of_ble_eq_true rfl) d_M_cell_34 (Nat.le_of_ble_eq_true rfl) (Nat.le_of_ble_eq_true rfl) ⟨Nat.le_of_ble_eq_true rfl, Nat.le_of_ble_eq_true rfl⟩ ?_
  refine q_ifeq_b (tgt := 69) hx hb d_M_cell_37 (by decide) (fun h_37 => absurd hpo h_37) (fun h_37 => ?_)
  refine lv_iload hx hb d_M_cell_40 (lv_at hl 4 rfl) ?_
  refine lv_i2l (v := lN en) hx hb d_M_cell_42 (nI_l (by omega)) ?_
  refine lv_lconst (v := 0) hx hb d_M_cell_43 (by decide) ?_
  refine lv_ldc2 (v := 1000000000) hx hb hown (hts _ (List.mem_cons_of_mem _ x_996)) d_M_cell_44 ?_
  refine cRS (As := [.long (lN en), .long 0, .long 1000000000]) (rest := []) K_M_in x_978 hx hb hml hown hts hE hV hS (c_M_in l D ct st (lN en) 0 1000000000) (fun k q h => by simp at h) rfl hl.1 rfl (Nat.le_of_ble_eq_true rfl) d_M_cell_47 (Nat.le_of_ble_eq_true rfl) (Nat.le_of_ble_eq_true rfl) ⟨Nat.le_of_ble_eq_true rfl, Nat.le_of_ble_eq_true rfl⟩ ?_
  refine q_ifeq_b (tgt := 69) hx hb d_M_cell_50 (by decide) (fun h_50 => absurd (w_inN (lo := 0) (hi := 1000000000) (by omega) (by omega) (by omega)) h_50) (fun h_50 => ?_)
  refine lv_iload hx hb d_M_cell_53 (lv_at hl 5 rfl) ?_
  refine lv_i2l (v := lN fu) hx hb d_M_cell_55 (nI_l (by omega)) ?_
  refine lv_lconst (v := 0) hx hb d_M_cell_56 (by decide) ?_
  refine lv_iload_n hx hb d_M_cell_57 rfl (lv_at hl 2 rfl) ?_
  refine lv_i2l (v := lN ma) hx hb d_M_cell_58 (nI_l (by omega)) ?_
  refine cRS (As := [.long (lN fu), .long 0, .long (lN ma)]) (rest := []) K_M_in x_978 hx hb hml hown hts hE hV hS (c_M_in l D ct st (lN fu) 0 (lN ma)) (fun k q h => by simp at h) rfl hl.1 rfl (Nat.le_of_ble_eq_true rfl) d_M_cell_59 (Nat.le_of_ble_eq_true rfl) (Nat.le_of_ble_eq_true rfl) ⟨Nat.le_of_ble_eq_true rfl, Nat.le_of_ble_eq_true rfl⟩ ?_
  refine q_ifeq_b (tgt := 69) hx hb d_M_cell_62 (by decide) (fun h_62 => absurd (w_inN (lo := 0) (hi := ma) (by omega) (by omega) (by omega)) h_62) (fun h_62 => ?_)
  refine lv_iconst (v := 1) hx hb d_M_cell_65 (by decide) ?_
  refine lv_goto (tgt := 70) hx hb d_M_cell_66 (by decide) ?_
  refine lv_istore (lv' := [(6, .int 1), (0, .ref (am 0)), (1, .int (nI k)), (2, .int (nI ma)), (3, .int po), (4, .int (nI en)), (5, .int (nI fu))]) hx hb d_M_cell_70 hl (by decide) rfl (fun ls hl => ?_)
  refine lv_aload_n hx hb d_M_cell_72 rfl (lv_at hl 1 rfl) ?_
  refine lv_iload hx hb d_M_cell_73 (lv_at hl 0 rfl) ?_
  refine lv_if_ne (tgt := 82) hx hb d_M_cell_75 (by decide) (fun _ => ?_) (fun h => absurd h (by decide))
  refine lv_iload_n hx hb d_M_cell_82 rfl (lv_at hl 3 rfl) ?_
  refine lv_i2l (v := lN ma) hx hb d_M_cell_83 (nI_l (by omega)) ?_
  refine lv_iload_n hx hb d_M_cell_84 rfl (lv_at hl 4 rfl) ?_
  refine lv_i2l hx hb d_M_cell_85 rfl ?_
  refine lv_iload hx hb d_M_cell_86 (lv_at hl 5 rfl) ?_
  refine lv_i2l (v := lN en) hx hb d_M_cell_88 (nI_l (by omega)) ?_
  refine cRS (As := [.long (lN ma), .long po.toInt64, .long (lN en)]) (rest := [.ref (am 0)]) K_M_within x_997 hx hb hml hown hts hE hV hS (c_M_within l D ct st (lN ma) po.toInt64 (lN en) (by rw [lN_toInt (by omega)]; omega)) (fun k q h => by simp at h) rfl hl.1 rfl (Nat.le_of_ble_eq_true rfl) d_M_cell_89 (Nat.le_of_ble_eq_true rfl) (Nat.le_of_ble_eq_true rfl) ⟨Nat.le_of_ble_eq_true rfl, Nat.le_of_ble_eq_true rfl⟩ ?_
  refine lv_lconst (v := 0) hx hb d_M_cell_92 (by decide) ?_
  refine W.lcmp hx hb d_M_cell_93 ?_
  refine q_cmp_ge (tgt := 101) hx hb d_M_cell_94 (by decide) (fun h_94 => ?_) (fun h_94 => absurd (Int64.not_lt.mp (nlt0 hwi)) h_94)
  refine lv_iconst (v := 0) hx hb d_M_cell_101 (by decide) ?_
  refine q_put (ty := .int) 0 0 (ws1 := [((am 0), .inr (8, [.int 0, .ref (am 1), .ref (am 2), .ref (am 3), .ref (am 4), .ref (am 5), .long bu, .long he, .ref (am 6), .ref (am 7)])), ((am 1), .inl (ct 1, 334, .inr (.inl S)))]) t_M i_M t_M_ok n_M rfl hx hb hts hown hE hP hD hS rfl (by decide) x_936 rfl (by decide +kernel) (rfl) rfl (Nat.le_of_ble_eq_true rfl) rfl d_M_cell_102 (fun H locs hP hD hS => ?_)
  refine lv_aload_n hx hb d_M_cell_105 rfl (lv_at hl 1 rfl) ?_
  refine q_get 0 0 i_M rfl hx hb hts hown hE hP rfl (by decide) x_936 rfl d_M_cell_106 ?_
  refine lv_if_le (tgt := 113) hx hb d_M_cell_109 (by decide) (fun _ => ?_) (fun h => absurd h (by decide))
  refine lv_aload_n hx hb d_M_cell_113 rfl (lv_at hl 1 rfl) ?_
  refine lv_iconst (v := 0) hx hb d_M_cell_114 (by decide) ?_
  refine lv_bipush (v := 8) hx hb d_M_cell_115 (by decide) ?_
  refine lv_iload_n hx hb d_M_cell_117 rfl (lv_at hl 2 rfl) ?_
  refine q_iadd (v := nI (8 + k)) hx hb d_M_cell_118 (nI_add 8 k) ?_
  refine lv_iload_n hx hb d_M_cell_119 rfl (lv_at hl 3 rfl) ?_
  refine lv_i2l (v := lN ma) hx hb d_M_cell_120 (nI_l (by omega)) ?_
  refine cWV (As := [.int 0, .int (nI (8 + k)), .long (lN ma)]) (rest := []) (q9 := 0) (ci := 8) K_M_tells x_1003 hx hb hml hown hts hE hV hS (c_M_tells l D ct st am 0 bu he S 0 (8 + k) (lN ma) (by decide) (by omega) _) hP hD hA [0, 1] [] (wr := []) rfl rfl (by decide) (by decide) (by decide) rfl hP rfl rfl hl.1 rfl (Nat.le_of_ble_eq_true rfl) d_M_cell_121 (Nat.le_of_ble_eq_true rfl) (Nat.le_of_ble_eq_true rfl) ⟨Nat.le_of_ble_eq_true rfl, Nat.le_of_ble_eq_true rfl⟩ (fun v W1 H locs hpost hP hD hS => ?_)
  obtain ⟨s1_1, rfl, rfl, hq_121⟩ := hpost
  have hP : va_P D classes [((am 0), .inr (8, [.int 0, .ref (am 1), .ref (am 2), .ref (am 3), .ref (am 4), .ref (am 5), .long bu, .long he, .ref (am 6), .ref (am 7)])), ((am 1), .inl (ct 1, 334, .inr (.inl s1_1)))] H := hP
  have hD : va_D A [((am 0), .inr (8, [.int 0, .ref (am 1), .ref (am 2), .ref (am 3), .ref (am 4), .ref (am 5), .long bu, .long he, .ref (am 6), .ref (am 7)])), ((am 1), .inl (ct 1, 334, .inr (.inl s1_1)))] := hD
  refine lv_aload_n hx hb d_M_cell_124 rfl (lv_at hl 1 rfl) ?_
  refine lv_iconst (v := 1) hx hb d_M_cell_125 (by decide) ?_
  refine lv_bipush (v := 40) hx hb d_M_cell_126 (by decide) ?_
  refine lv_iload_n hx hb d_M_cell_128 rfl (lv_at hl 2 rfl) ?_
  refine q_iadd (v := nI (40 + k)) hx hb d_M_cell_129 (nI_add 40 k) ?_
  refine lv_iload_n hx hb d_M_cell_130 rfl (lv_at hl 4 rfl) ?_
  refine lv_i2l hx hb d_M_cell_131 rfl ?_
  refine cWV (As := [.int 1, .int (nI (40 + k)), .long po.toInt64]) (rest := []) (q9 := 0) (ci := 8) K_M_tells x_1003 hx hb hml hown hts hE hV hS (c_M_tells l D ct st am 0 bu he s1_1 1 (40 + k) po.toInt64 (by decide) (by omega) _) hP hD hA [0, 1] [] (wr := []) rfl rfl (by decide) (by decide) (by decide) rfl hP rfl rfl hl.1 rfl (Nat.le_of_ble_eq_true rfl) d_M_cell_132 (Nat.le_of_ble_eq_true rfl) (Nat.le_of_ble_eq_true rfl) ⟨Nat.le_of_ble_eq_true rfl, Nat.le_of_ble_eq_true rfl⟩ (fun v W1 H locs hpost hP hD hS => ?_)
  obtain ⟨s1_2, rfl, rfl, hq_132⟩ := hpost
  have hP : va_P D classes [((am 0), .inr (8, [.int 0, .ref (am 1), .ref (am 2), .ref (am 3), .ref (am 4), .ref (am 5), .long bu, .long he, .ref (am 6), .ref (am 7)])), ((am 1), .inl (ct 1, 334, .inr (.inl s1_2)))] H := hP
  have hD : va_D A [((am 0), .inr (8, [.int 0, .ref (am 1), .ref (am 2), .ref (am 3), .ref (am 4), .ref (am 5), .long bu, .long he, .ref (am 6), .ref (am 7)])), ((am 1), .inl (ct 1, 334, .inr (.inl s1_2)))] := hD
  refine lv_aload_n hx hb d_M_cell_135 rfl (lv_at hl 1 rfl) ?_
  refine lv_iconst (v := 2) hx hb d_M_cell_136 (by decide) ?_
  refine lv_bipush (v := 72) hx hb d_M_cell_137 (by decide) ?_
  refine lv_iload_n hx hb d_M_cell_139 rfl (lv_at hl 2 rfl) ?_
  refine q_iadd (v := nI (72 + k)) hx hb d_M_cell_140 (nI_add 72 k) ?_
  refine lv_iload hx hb d_M_cell_141 (lv_at hl 5 rfl) ?_
  refine lv_i2l (v := lN en) hx hb d_M_cell_143 (nI_l (by omega)) ?_
  refine cWV (As := [.int 2, .int (nI (72 + k)), .long (lN en)]) (rest := []) (q9 := 0) (ci := 8) K_M_tells x_1003 hx hb hml hown hts hE hV hS (c_M_tells l D ct st am 0 bu he s1_2 2 (72 + k) (lN en) (by decide) (by omega) _) hP hD hA [0, 1] [] (wr := []) rfl rfl (by decide) (by decide) (by decide) rfl hP rfl rfl hl.1 rfl (Nat.le_of_ble_eq_true rfl) d_M_cell_144 (Nat.le_of_ble_eq_true rfl) (Nat.le_of_ble_eq_true rfl) ⟨Nat.le_of_ble_eq_true rfl, Nat.le_of_ble_eq_true rfl⟩ (fun v W1 H locs hpost hP hD hS => ?_)
  obtain ⟨s1_3, rfl, rfl, hq_144⟩ := hpost
  have hP : va_P D classes [((am 0), .inr (8, [.int 0, .ref (am 1), .ref (am 2), .ref (am 3), .ref (am 4), .ref (am 5), .long bu, .long he, .ref (am 6), .ref (am 7)])), ((am 1), .inl (ct 1, 334, .inr (.inl s1_3)))] H := hP
  have hD : va_D A [((am 0), .inr (8, [.int 0, .ref (am 1), .ref (am 2), .ref (am 3), .ref (am 4), .ref (am 5), .long bu, .long he, .ref (am 6), .ref (am 7)])), ((am 1), .inl (ct 1, 334, .inr (.inl s1_3)))] := hD
  refine lv_aload_n hx hb d_M_cell_147 rfl (lv_at hl 1 rfl) ?_
  refine lv_iconst (v := 3) hx hb d_M_cell_148 (by decide) ?_
  refine lv_bipush (v := 104) hx hb d_M_cell_149 (by decide) ?_
  refine lv_iload_n hx hb d_M_cell_151 rfl (lv_at hl 2 rfl) ?_
  refine q_iadd (v := nI (104 + k)) hx hb d_M_cell_152 (nI_add 104 k) ?_
  refine lv_iload hx hb d_M_cell_153 (lv_at hl 6 rfl) ?_
  refine lv_i2l (v := lN fu) hx hb d_M_cell_155 (nI_l (by omega)) ?_
  refine cWV (As := [.int 3, .int (nI (104 + k)), .long (lN fu)]) (rest := []) (q9 := 0) (ci := 8) K_M_tells x_1003 hx hb hml hown hts hE hV hS (c_M_tells l D ct st am 0 bu he s1_3 3 (104 + k) (lN fu) (by decide) (by omega) _) hP hD hA [0, 1] [] (wr := []) rfl rfl (by decide) (by decide) (by decide) rfl hP rfl rfl hl.1 rfl (Nat.le_of_ble_eq_true rfl) d_M_cell_156 (Nat.le_of_ble_eq_true rfl) (Nat.le_of_ble_eq_true rfl) ⟨Nat.le_of_ble_eq_true rfl, Nat.le_of_ble_eq_true rfl⟩ (fun v W1 H locs hpost hP hD hS => ?_)
  obtain ⟨s1_4, rfl, rfl, hq_156⟩ := hpost
  have hP : va_P D classes [((am 0), .inr (8, [.int 0, .ref (am 1), .ref (am 2), .ref (am 3), .ref (am 4), .ref (am 5), .long bu, .long he, .ref (am 6), .ref (am 7)])), ((am 1), .inl (ct 1, 334, .inr (.inl s1_4)))] H := hP
  have hD : va_D A [((am 0), .inr (8, [.int 0, .ref (am 1), .ref (am 2), .ref (am 3), .ref (am 4), .ref (am 5), .long bu, .long he, .ref (am 6), .ref (am 7)])), ((am 1), .inl (ct 1, 334, .inr (.inl s1_4)))] := hD
  exact rW_v hx hb hr hlk hAe hS hP hD (Nat.le_of_ble_eq_true rfl) (Nat.le_of_ble_eq_true rfl) d_M_cell_159 ⟨s1_4, rfl, rfl, ⟨⟨by rw [hq_156.2.2 142 (by omega) (by omega), hq_144.2.2 142 (by omega) (by omega), hq_132.2.2 142 (by omega) (by omega)]; exact hq_121.1, by rw [hq_156.2.2 143 (by omega) (by omega), hq_144.2.2 143 (by omega) (by omega), ← hq_121.2.2 143 (by omega) (by omega), ← hq_121.2.2 (40 + k) (by omega) (by omega)]; exact hq_132.1, by rw [hq_156.2.2 144 (by omega) (by omega), ← hq_121.2.2 144 (by omega) (by omega), ← hq_121.2.2 (72 + k) (by omega) (by omega), ← hq_132.2.2 144 (by omega) (by omega), ← hq_132.2.2 (72 + k) (by omega) (by omega)]; exact hq_144.1, by rw [← hq_121.2.2 145 (by omega) (by omega), ← hq_121.2.2 (104 + k) (by omega) (by omega), ← hq_132.2.2 145 (by omega) (by omega), ← hq_132.2.2 (104 + k) (by omega) (by omega), ← hq_144.2.2 145 (by omega) (by omega), ← hq_144.2.2 (104 + k) (by omega) (by omega)]; exact hq_156.1⟩, ⟨by rw [hq_156.2.2 (8 + k) (by omega) (by omega), hq_144.2.2 (8 + k) (by omega) (by omega), hq_132.2.2 (8 + k) (by omega) (by omega)]; exact hq_121.2.1, by rw [hq_156.2.2 (40 + k) (by omega) (by omega), hq_144.2.2 (40 + k) (by omega) (by omega)]; exact hq_132.2.1, by rw [hq_156.2.2 (72 + k) (by omega) (by omega)]; exact hq_144.2.1, hq_156.2.1⟩, fun j e1 e2 e3 e4 e5 e6 e7 e8 => (hq_156.2.2 j (by omega) (by omega)).trans ((hq_144.2.2 j (by omega) (by omega)).trans ((hq_132.2.2 j (by omega) (by omega)).trans (hq_121.2.2 j (by omega) (by omega))))⟩⟩
set_option maxHeartbeats 4000000 in
set_option maxRecDepth 100000 in
theorem c_M_cell_b1 (l : Launch) (D : va_G) (ct : Nat → ClassId) (st : Nat → Nat) (am : Nat → Nat) (th : Int32) (bu : Int64) (he : Int64) (S : Nat → Int64) (a0 : Int32) (a1 : Int32) (a2 : Int32) (a3 : Int32) (a4 : Int32) (hb0 : ¬ w_in a0.toInt64 0 (S 4 - 1)) (sz : Nat) : Met l y_M_cell (wsy y_M_cell b_M_cell 7 (none)) (rmW 2 0 0 46) (PcW D ct st [.ref (am 0), .int a0, .int a1, .int a2, .int a3, .int a4] [((am 0), .inr (8, [.int th, .ref (am 1), .ref (am 2), .ref (am 3), .ref (am 4), .ref (am 5), .long bu, .long he, .ref (am 6), .ref (am 7)])), ((am 1), .inl (ct 1, 334, .inr (.inl S)))] sz) (QcW D [((am 0), .inr (8, [.int th, .ref (am 1), .ref (am 2), .ref (am 3), .ref (am 4), .ref (am 5), .long bu, .long he, .ref (am 6), .ref (am 7)])), ((am 1), .inl (ct 1, 334, .inr (.inl S)))] sz (fun v W1 => v = none ∧ W1 = [((am 0), .inr (8, [.int 1, .ref (am 1), .ref (am 2), .ref (am 3), .ref (am 4), .ref (am 5), .long bu, .long he, .ref (am 6), .ref (am 7)])), ((am 1), .inl (ct 1, 334, .inr (.inl S)))] ∧ (True))) 0 0 (va_A [((am 0), .inr (8, [.int th, .ref (am 1), .ref (am 2), .ref (am 3), .ref (am 4), .ref (am 5), .long bu, .long he, .ref (am 6), .ref (am 7)])), ((am 1), .inl (ct 1, 334, .inr (.inl S)))] sz) := by
  refine enterW (by decide) (Nat.le_of_ble_eq_true rfl) ?_
  intro p e s m args below meth c ls A hx hb hr hml hown hts hlk hin hsz hAe hP hD hA hE hV hS hl
  have hl : lv_has ls 7 [(0, .ref (am 0)), (1, .int a0), (2, .int a1), (3, .int a2), (4, .int a3), (5, .int a4)] := hl
  refine lv_aload_n hx hb d_M_cell_0 rfl (lv_at hl 0 rfl) ?_
  refine lv_iload_n hx hb d_M_cell_1 rfl (lv_at hl 1 rfl) ?_
  refine cRV (As := [.int a0]) (rest := []) (q9 := 0) (ci := 8) K_M_isCell x_989 hx hb hml hown hts hE hV hS (c_M_isCell l D ct st am th bu he S a0) hP rfl hP rfl rfl hl.1 rfl (Nat.le_of_ble_eq_true rfl) d_M_cell_2 (Nat.le_of_ble_eq_true rfl) (Nat.le_of_ble_eq_true rfl) ⟨Nat.le_of_ble_eq_true rfl, Nat.le_of_ble_eq_true rfl⟩ ?_
  refine q_ifne_b (tgt := 14) hx hb d_M_cell_5 (by decide) (fun h_5 => absurd h_5 hb0) (fun h_5 => ?_)
  refine lv_aload_n hx hb d_M_cell_8 rfl (lv_at hl 0 rfl) ?_
  refine lv_iconst (v := 1) hx hb d_M_cell_9 (by decide) ?_
  refine q_put (ty := .int) 0 0 (ws1 := [((am 0), .inr (8, [.int 1, .ref (am 1), .ref (am 2), .ref (am 3), .ref (am 4), .ref (am 5), .long bu, .long he, .ref (am 6), .ref (am 7)])), ((am 1), .inl (ct 1, 334, .inr (.inl S)))]) t_M i_M t_M_ok n_M rfl hx hb hts hown hE hP hD hS rfl (by decide) x_936 rfl (by decide +kernel) (rfl) rfl (Nat.le_of_ble_eq_true rfl) rfl d_M_cell_10 (fun H locs hP hD hS => ?_)
  exact rW_v hx hb hr hlk hAe hS hP hD (Nat.le_of_ble_eq_true rfl) (Nat.le_of_ble_eq_true rfl) d_M_cell_13 ⟨rfl, rfl, trivial⟩
set_option maxHeartbeats 4000000 in
set_option maxRecDepth 100000 in
theorem c_M_cell_b2 (l : Launch) (D : va_G) (ct : Nat → ClassId) (st : Nat → Nat) (am : Nat → Nat) (th : Int32) (bu : Int64) (he : Int64) (S : Nat → Int64) (a0 : Int32) (a1 : Int32) (a2 : Int32) (a3 : Int32) (a4 : Int32) (hb1 : w_in a0.toInt64 0 (S 4 - 1)) (hb0 : ¬ (w_in a1.toInt64 1 1000000 ∧ w_in a2.toInt64 (-10000000) 10000000 ∧ w_in a3.toInt64 0 1000000000 ∧ w_in a4.toInt64 0 a1.toInt64)) (sz : Nat) : Met l y_M_cell (wsy y_M_cell b_M_cell 7 (none)) (rmW 2 0 0 46) (PcW D ct st [.ref (am 0), .int a0, .int a1, .int a2, .int a3, .int a4] [((am 0), .inr (8, [.int th, .ref (am 1), .ref (am 2), .ref (am 3), .ref (am 4), .ref (am 5), .long bu, .long he, .ref (am 6), .ref (am 7)])), ((am 1), .inl (ct 1, 334, .inr (.inl S)))] sz) (QcW D [((am 0), .inr (8, [.int th, .ref (am 1), .ref (am 2), .ref (am 3), .ref (am 4), .ref (am 5), .long bu, .long he, .ref (am 6), .ref (am 7)])), ((am 1), .inl (ct 1, 334, .inr (.inl S)))] sz (fun v W1 => v = none ∧ W1 = [((am 0), .inr (8, [.int 2, .ref (am 1), .ref (am 2), .ref (am 3), .ref (am 4), .ref (am 5), .long bu, .long he, .ref (am 6), .ref (am 7)])), ((am 1), .inl (ct 1, 334, .inr (.inl S)))] ∧ (True))) 0 0 (va_A [((am 0), .inr (8, [.int th, .ref (am 1), .ref (am 2), .ref (am 3), .ref (am 4), .ref (am 5), .long bu, .long he, .ref (am 6), .ref (am 7)])), ((am 1), .inl (ct 1, 334, .inr (.inl S)))] sz) := by
  refine enterW (by decide) (Nat.le_of_ble_eq_true rfl) ?_
  intro p e s m args below meth c ls A hx hb hr hml hown hts hlk hin hsz hAe hP hD hA hE hV hS hl
  have hl : lv_has ls 7 [(0, .ref (am 0)), (1, .int a0), (2, .int a1), (3, .int a2), (4, .int a3), (5, .int a4)] := hl
  refine lv_aload_n hx hb d_M_cell_0 rfl (lv_at hl 0 rfl) ?_
  refine lv_iload_n hx hb d_M_cell_1 rfl (lv_at hl 1 rfl) ?_
  refine cRV (As := [.int a0]) (rest := []) (q9 := 0) (ci := 8) K_M_isCell x_989 hx hb hml hown hts hE hV hS (c_M_isCell l D ct st am th bu he S a0) hP rfl hP rfl rfl hl.1 rfl (Nat.le_of_ble_eq_true rfl) d_M_cell_2 (Nat.le_of_ble_eq_true rfl) (Nat.le_of_ble_eq_true rfl) ⟨Nat.le_of_ble_eq_true rfl, Nat.le_of_ble_eq_true rfl⟩ ?_
  refine q_ifne_b (tgt := 14) hx hb d_M_cell_5 (by decide) (fun h_5 => ?_) (fun h_5 => absurd hb1 h_5)
  refine lv_iload_n hx hb d_M_cell_14 rfl (lv_at hl 2 rfl) ?_
  refine lv_i2l hx hb d_M_cell_15 rfl ?_
  refine lv_lconst (v := 1) hx hb d_M_cell_16 (by decide) ?_
  refine lv_ldc2 (v := 1000000) hx hb hown (hts _ (List.mem_cons_of_mem _ x_993)) d_M_cell_17 ?_
  refine cRS (As := [.long a1.toInt64, .long 1, .long 1000000]) (rest := []) K_M_in x_978 hx hb hml hown hts hE hV hS (c_M_in l D ct st a1.toInt64 1 1000000) (fun k q h => by simp at h) rfl hl.1 rfl (Nat.le_of_ble_eq_true rfl) d_M_cell_20 (Nat.le_of_ble_eq_true rfl) (Nat.le_of_ble_eq_true rfl) ⟨Nat.le_of_ble_eq_true rfl, Nat.le_of_ble_eq_true rfl⟩ ?_
  refine q_ifeq_b (tgt := 69) hx hb d_M_cell_23 (by decide) (fun h_23 => ?_) (fun h_23 => ?_)
  · refine lv_iconst (v := 0) hx hb d_M_cell_69 (by decide) ?_
    refine lv_istore (lv' := [(6, .int 0), (0, .ref (am 0)), (1, .int a0), (2, .int a1), (3, .int a2), (4, .int a3), (5, .int a4)]) hx hb d_M_cell_70 hl (by decide) rfl (fun ls hl => ?_)
    refine lv_aload_n hx hb d_M_cell_72 rfl (lv_at hl 1 rfl) ?_
    refine lv_iload hx hb d_M_cell_73 (lv_at hl 0 rfl) ?_
    refine lv_if_ne (tgt := 82) hx hb d_M_cell_75 (by decide) (fun h => absurd h (by decide)) (fun _ => ?_)
    refine lv_iconst (v := 2) hx hb d_M_cell_78 (by decide) ?_
    refine lv_goto (tgt := 102) hx hb d_M_cell_79 (by decide) ?_
    refine q_put (ty := .int) 0 0 (ws1 := [((am 0), .inr (8, [.int 2, .ref (am 1), .ref (am 2), .ref (am 3), .ref (am 4), .ref (am 5), .long bu, .long he, .ref (am 6), .ref (am 7)])), ((am 1), .inl (ct 1, 334, .inr (.inl S)))]) t_M i_M t_M_ok n_M rfl hx hb hts hown hE hP hD hS rfl (by decide) x_936 rfl (by decide +kernel) (rfl) rfl (Nat.le_of_ble_eq_true rfl) rfl d_M_cell_102 (fun H locs hP hD hS => ?_)
    refine lv_aload_n hx hb d_M_cell_105 rfl (lv_at hl 1 rfl) ?_
    refine q_get 0 0 i_M rfl hx hb hts hown hE hP rfl (by decide) x_936 rfl d_M_cell_106 ?_
    refine lv_if_le (tgt := 113) hx hb d_M_cell_109 (by decide) (fun h => absurd h (by decide)) (fun _ => ?_)
    exact rW_v hx hb hr hlk hAe hS hP hD (Nat.le_of_ble_eq_true rfl) (Nat.le_of_ble_eq_true rfl) d_M_cell_112 ⟨rfl, rfl, trivial⟩
  · refine lv_iload_n hx hb d_M_cell_26 rfl (lv_at hl 3 rfl) ?_
    refine lv_i2l hx hb d_M_cell_27 rfl ?_
    refine lv_ldc2 (v := (-10000000)) hx hb hown (hts _ (List.mem_cons_of_mem _ x_994)) d_M_cell_28 ?_
    refine lv_ldc2 (v := 10000000) hx hb hown (hts _ (List.mem_cons_of_mem _ x_995)) d_M_cell_31 ?_
    refine cRS (As := [.long a2.toInt64, .long (-10000000), .long 10000000]) (rest := []) K_M_in x_978 hx hb hml hown hts hE hV hS (c_M_in l D ct st a2.toInt64 (-10000000) 10000000) (fun k q h => by simp at h) rfl hl.1 rfl (Nat.le_of_ble_eq_true rfl) d_M_cell_34 (Nat.le_of_ble_eq_true rfl) (Nat.le_of_ble_eq_true rfl) ⟨Nat.le_of_ble_eq_true rfl, Nat.le_of_ble_eq_true rfl⟩ ?_
    refine q_ifeq_b (tgt := 69) hx hb d_M_cell_37 (by decide) (fun h_37 => ?_) (fun h_37 => ?_)
    · refine lv_iconst (v := 0) hx hb d_M_cell_69 (by decide) ?_
      refine lv_istore (lv' := [(6, .int 0), (0, .ref (am 0)), (1, .int a0), (2, .int a1), (3, .int a2), (4, .int a3), (5, .int a4)]) hx hb d_M_cell_70 hl (by decide) rfl (fun ls hl => ?_)
      refine lv_aload_n hx hb d_M_cell_72 rfl (lv_at hl 1 rfl) ?_
      refine lv_iload hx hb d_M_cell_73 (lv_at hl 0 rfl) ?_
      refine lv_if_ne (tgt := 82) hx hb d_M_cell_75 (by decide) (fun h => absurd h (by decide)) (fun _ => ?_)
      refine lv_iconst (v := 2) hx hb d_M_cell_78 (by decide) ?_
      refine lv_goto (tgt := 102) hx hb d_M_cell_79 (by decide) ?_
      refine q_put (ty := .int) 0 0 (ws1 := [((am 0), .inr (8, [.int 2, .ref (am 1), .ref (am 2), .ref (am 3), .ref (am 4), .ref (am 5), .long bu, .long he, .ref (am 6), .ref (am 7)])), ((am 1), .inl (ct 1, 334, .inr (.inl S)))]) t_M i_M t_M_ok n_M rfl hx hb hts hown hE hP hD hS rfl (by decide) x_936 rfl (by decide +kernel) (rfl) rfl (Nat.le_of_ble_eq_true rfl) rfl d_M_cell_102 (fun H locs hP hD hS => ?_)
      refine lv_aload_n hx hb d_M_cell_105 rfl (lv_at hl 1 rfl) ?_
      refine q_get 0 0 i_M rfl hx hb hts hown hE hP rfl (by decide) x_936 rfl d_M_cell_106 ?_
      refine lv_if_le (tgt := 113) hx hb d_M_cell_109 (by decide) (fun h => absurd h (by decide)) (fun _ => ?_)
      exact rW_v hx hb hr hlk hAe hS hP hD (Nat.le_of_ble_eq_true rfl) (Nat.le_of_ble_eq_true rfl) d_M_cell_112 ⟨rfl, rfl, trivial⟩
    · refine lv_iload hx hb d_M_cell_40 (lv_at hl 4 rfl) ?_
      refine lv_i2l hx hb d_M_cell_42 rfl ?_
      refine lv_lconst (v := 0) hx hb d_M_cell_43 (by decide) ?_
      refine lv_ldc2 (v := 1000000000) hx hb hown (hts _ (List.mem_cons_of_mem _ x_996)) d_M_cell_44 ?_
      refine cRS (As := [.long a3.toInt64, .long 0, .long 1000000000]) (rest := []) K_M_in x_978 hx hb hml hown hts hE hV hS (c_M_in l D ct st a3.toInt64 0 1000000000) (fun k q h => by simp at h) rfl hl.1 rfl (Nat.le_of_ble_eq_true rfl) d_M_cell_47 (Nat.le_of_ble_eq_true rfl) (Nat.le_of_ble_eq_true rfl) ⟨Nat.le_of_ble_eq_true rfl, Nat.le_of_ble_eq_true rfl⟩ ?_
      refine q_ifeq_b (tgt := 69) hx hb d_M_cell_50 (by decide) (fun h_50 => ?_) (fun h_50 => ?_)
      · refine lv_iconst (v := 0) hx hb d_M_cell_69 (by decide) ?_
        refine lv_istore (lv' := [(6, .int 0), (0, .ref (am 0)), (1, .int a0), (2, .int a1), (3, .int a2), (4, .int a3), (5, .int a4)]) hx hb d_M_cell_70 hl (by decide) rfl (fun ls hl => ?_)
        refine lv_aload_n hx hb d_M_cell_72 rfl (lv_at hl 1 rfl) ?_
        refine lv_iload hx hb d_M_cell_73 (lv_at hl 0 rfl) ?_
        refine lv_if_ne (tgt := 82) hx hb d_M_cell_75 (by decide) (fun h => absurd h (by decide)) (fun _ => ?_)
        refine lv_iconst (v := 2) hx hb d_M_cell_78 (by decide) ?_
        refine lv_goto (tgt := 102) hx hb d_M_cell_79 (by decide) ?_
        refine q_put (ty := .int) 0 0 (ws1 := [((am 0), .inr (8, [.int 2, .ref (am 1), .ref (am 2), .ref (am 3), .ref (am 4), .ref (am 5), .long bu, .long he, .ref (am 6), .ref (am 7)])), ((am 1), .inl (ct 1, 334, .inr (.inl S)))]) t_M i_M t_M_ok n_M rfl hx hb hts hown hE hP hD hS rfl (by decide) x_936 rfl (by decide +kernel) (rfl) rfl (Nat.le_of_ble_eq_true rfl) rfl d_M_cell_102 (fun H locs hP hD hS => ?_)
        refine lv_aload_n hx hb d_M_cell_105 rfl (lv_at hl 1 rfl) ?_
        refine q_get 0 0 i_M rfl hx hb hts hown hE hP rfl (by decide) x_936 rfl d_M_cell_106 ?_
        refine lv_if_le (tgt := 113) hx hb d_M_cell_109 (by decide) (fun h => absurd h (by decide)) (fun _ => ?_)
        exact rW_v hx hb hr hlk hAe hS hP hD (Nat.le_of_ble_eq_true rfl) (Nat.le_of_ble_eq_true rfl) d_M_cell_112 ⟨rfl, rfl, trivial⟩
      · refine lv_iload hx hb d_M_cell_53 (lv_at hl 5 rfl) ?_
        refine lv_i2l hx hb d_M_cell_55 rfl ?_
        refine lv_lconst (v := 0) hx hb d_M_cell_56 (by decide) ?_
        refine lv_iload_n hx hb d_M_cell_57 rfl (lv_at hl 2 rfl) ?_
        refine lv_i2l hx hb d_M_cell_58 rfl ?_
        refine cRS (As := [.long a4.toInt64, .long 0, .long a1.toInt64]) (rest := []) K_M_in x_978 hx hb hml hown hts hE hV hS (c_M_in l D ct st a4.toInt64 0 a1.toInt64) (fun k q h => by simp at h) rfl hl.1 rfl (Nat.le_of_ble_eq_true rfl) d_M_cell_59 (Nat.le_of_ble_eq_true rfl) (Nat.le_of_ble_eq_true rfl) ⟨Nat.le_of_ble_eq_true rfl, Nat.le_of_ble_eq_true rfl⟩ ?_
        refine q_ifeq_b (tgt := 69) hx hb d_M_cell_62 (by decide) (fun h_62 => ?_) (fun h_62 => absurd ⟨h_23, h_37, h_50, h_62⟩ hb0)
        refine lv_iconst (v := 0) hx hb d_M_cell_69 (by decide) ?_
        refine lv_istore (lv' := [(6, .int 0), (0, .ref (am 0)), (1, .int a0), (2, .int a1), (3, .int a2), (4, .int a3), (5, .int a4)]) hx hb d_M_cell_70 hl (by decide) rfl (fun ls hl => ?_)
        refine lv_aload_n hx hb d_M_cell_72 rfl (lv_at hl 1 rfl) ?_
        refine lv_iload hx hb d_M_cell_73 (lv_at hl 0 rfl) ?_
        refine lv_if_ne (tgt := 82) hx hb d_M_cell_75 (by decide) (fun h => absurd h (by decide)) (fun _ => ?_)
        refine lv_iconst (v := 2) hx hb d_M_cell_78 (by decide) ?_
        refine lv_goto (tgt := 102) hx hb d_M_cell_79 (by decide) ?_
        refine q_put (ty := .int) 0 0 (ws1 := [((am 0), .inr (8, [.int 2, .ref (am 1), .ref (am 2), .ref (am 3), .ref (am 4), .ref (am 5), .long bu, .long he, .ref (am 6), .ref (am 7)])), ((am 1), .inl (ct 1, 334, .inr (.inl S)))]) t_M i_M t_M_ok n_M rfl hx hb hts hown hE hP hD hS rfl (by decide) x_936 rfl (by decide +kernel) (rfl) rfl (Nat.le_of_ble_eq_true rfl) rfl d_M_cell_102 (fun H locs hP hD hS => ?_)
        refine lv_aload_n hx hb d_M_cell_105 rfl (lv_at hl 1 rfl) ?_
        refine q_get 0 0 i_M rfl hx hb hts hown hE hP rfl (by decide) x_936 rfl d_M_cell_106 ?_
        refine lv_if_le (tgt := 113) hx hb d_M_cell_109 (by decide) (fun h => absurd h (by decide)) (fun _ => ?_)
        exact rW_v hx hb hr hlk hAe hS hP hD (Nat.le_of_ble_eq_true rfl) (Nat.le_of_ble_eq_true rfl) d_M_cell_112 ⟨rfl, rfl, trivial⟩
set_option maxHeartbeats 4000000 in
set_option maxRecDepth 100000 in
theorem c_M_cell_b3 (l : Launch) (D : va_G) (ct : Nat → ClassId) (st : Nat → Nat) (am : Nat → Nat) (th : Int32) (bu : Int64) (he : Int64) (S : Nat → Int64) (n : Nat) (k : Nat) (ma : Nat) (po : Int32) (en : Nat) (fu : Nat) (hS4 : S 4 = lN n) (hn : n ≤ 32) (hk : k < n) (hma : 1 ≤ ma ∧ ma ≤ 1000000) (hpo : w_in po.toInt64 (-10000000) 10000000) (hen : en ≤ 1000000000) (hfu : fu ≤ ma) (hwi : (w_within (lN ma) po.toInt64 (lN en)).toInt < 0) (sz : Nat) : Met l y_M_cell (wsy y_M_cell b_M_cell 7 (none)) (rmW 2 0 0 50) (PcW D ct st [.ref (am 0), .int (nI k), .int (nI ma), .int po, .int (nI en), .int (nI fu)] [((am 0), .inr (8, [.int th, .ref (am 1), .ref (am 2), .ref (am 3), .ref (am 4), .ref (am 5), .long bu, .long he, .ref (am 6), .ref (am 7)])), ((am 1), .inl (ct 1, 334, .inr (.inl S)))] sz) (QcW D [((am 0), .inr (8, [.int th, .ref (am 1), .ref (am 2), .ref (am 3), .ref (am 4), .ref (am 5), .long bu, .long he, .ref (am 6), .ref (am 7)])), ((am 1), .inl (ct 1, 334, .inr (.inl S)))] sz (fun v W1 => v = none ∧ W1 = [((am 0), .inr (8, [.int 3, .ref (am 1), .ref (am 2), .ref (am 3), .ref (am 4), .ref (am 5), .long bu, .long he, .ref (am 6), .ref (am 7)])), ((am 1), .inl (ct 1, 334, .inr (.inl S)))] ∧ (True))) 0 0 (va_A [((am 0), .inr (8, [.int th, .ref (am 1), .ref (am 2), .ref (am 3), .ref (am 4), .ref (am 5), .long bu, .long he, .ref (am 6), .ref (am 7)])), ((am 1), .inl (ct 1, 334, .inr (.inl S)))] sz) := by
  refine enterW (by decide) (Nat.le_of_ble_eq_true rfl) ?_
  intro p e s m args below meth c ls A hx hb hr hml hown hts hlk hin hsz hAe hP hD hA hE hV hS hl
  have hl : lv_has ls 7 [(0, .ref (am 0)), (1, .int (nI k)), (2, .int (nI ma)), (3, .int po), (4, .int (nI en)), (5, .int (nI fu))] := hl
  refine lv_aload_n hx hb d_M_cell_0 rfl (lv_at hl 0 rfl) ?_
  refine lv_iload_n hx hb d_M_cell_1 rfl (lv_at hl 1 rfl) ?_
  refine cRV (As := [.int (nI k)]) (rest := []) (q9 := 0) (ci := 8) K_M_isCell x_989 hx hb hml hown hts hE hV hS (c_M_isCell l D ct st am th bu he S (nI k)) hP rfl hP rfl rfl hl.1 rfl (Nat.le_of_ble_eq_true rfl) d_M_cell_2 (Nat.le_of_ble_eq_true rfl) (Nat.le_of_ble_eq_true rfl) ⟨Nat.le_of_ble_eq_true rfl, Nat.le_of_ble_eq_true rfl⟩ ?_
  refine q_ifne_b (tgt := 14) hx hb d_M_cell_5 (by decide) (fun h_5 => ?_) (fun h_5 => absurd (cell_in hS4 hk hn) h_5)
  refine lv_iload_n hx hb d_M_cell_14 rfl (lv_at hl 2 rfl) ?_
  refine lv_i2l (v := lN ma) hx hb d_M_cell_15 (nI_l (by omega)) ?_
  refine lv_lconst (v := 1) hx hb d_M_cell_16 (by decide) ?_
  refine lv_ldc2 (v := 1000000) hx hb hown (hts _ (List.mem_cons_of_mem _ x_993)) d_M_cell_17 ?_
  refine cRS (As := [.long (lN ma), .long 1, .long 1000000]) (rest := []) K_M_in x_978 hx hb hml hown hts hE hV hS (c_M_in l D ct st (lN ma) 1 1000000) (fun k q h => by simp at h) rfl hl.1 rfl (Nat.le_of_ble_eq_true rfl) d_M_cell_20 (Nat.le_of_ble_eq_true rfl) (Nat.le_of_ble_eq_true rfl) ⟨Nat.le_of_ble_eq_true rfl, Nat.le_of_ble_eq_true rfl⟩ ?_
  refine q_ifeq_b (tgt := 69) hx hb d_M_cell_23 (by decide) (fun h_23 => absurd (w_inN (lo := 1) (hi := 1000000) (by omega) (by omega) (by omega)) h_23) (fun h_23 => ?_)
  refine lv_iload_n hx hb d_M_cell_26 rfl (lv_at hl 3 rfl) ?_
  refine lv_i2l hx hb d_M_cell_27 rfl ?_
  refine lv_ldc2 (v := (-10000000)) hx hb hown (hts _ (List.mem_cons_of_mem _ x_994)) d_M_cell_28 ?_
  refine lv_ldc2 (v := 10000000) hx hb hown (hts _ (List.mem_cons_of_mem _ x_995)) d_M_cell_31 ?_
  refine cRS (As := [.long po.toInt64, .long (-10000000), .long 10000000]) (rest := []) K_M_in x_978 hx hb hml hown hts hE hV hS (c_M_in l D ct st po.toInt64 (-10000000) 10000000) (fun k q h => by simp at h) rfl hl.1 rfl (Nat.le_of_ble_eq_true rfl) d_M_cell_34 (Nat.le_of_ble_eq_true rfl) (Nat.le_of_ble_eq_true rfl) ⟨Nat.le_of_ble_eq_true rfl, Nat.le_of_ble_eq_true rfl⟩ ?_
  refine q_ifeq_b (tgt := 69) hx hb d_M_cell_37 (by decide) (fun h_37 => absurd hpo h_37) (fun h_37 => ?_)
  refine lv_iload hx hb d_M_cell_40 (lv_at hl 4 rfl) ?_
  refine lv_i2l (v := lN en) hx hb d_M_cell_42 (nI_l (by omega)) ?_
  refine lv_lconst (v := 0) hx hb d_M_cell_43 (by decide) ?_
  refine lv_ldc2 (v := 1000000000) hx hb hown (hts _ (List.mem_cons_of_mem _ x_996)) d_M_cell_44 ?_
  refine cRS (As := [.long (lN en), .long 0, .long 1000000000]) (rest := []) K_M_in x_978 hx hb hml hown hts hE hV hS (c_M_in l D ct st (lN en) 0 1000000000) (fun k q h => by simp at h) rfl hl.1 rfl (Nat.le_of_ble_eq_true rfl) d_M_cell_47 (Nat.le_of_ble_eq_true rfl) (Nat.le_of_ble_eq_true rfl) ⟨Nat.le_of_ble_eq_true rfl, Nat.le_of_ble_eq_true rfl⟩ ?_
  refine q_ifeq_b (tgt := 69) hx hb d_M_cell_50 (by decide) (fun h_50 => absurd (w_inN (lo := 0) (hi := 1000000000) (by omega) (by omega) (by omega)) h_50) (fun h_50 => ?_)
  refine lv_iload hx hb d_M_cell_53 (lv_at hl 5 rfl) ?_
  refine lv_i2l (v := lN fu) hx hb d_M_cell_55 (nI_l (by omega)) ?_
  refine lv_lconst (v := 0) hx hb d_M_cell_56 (by decide) ?_
  refine lv_iload_n hx hb d_M_cell_57 rfl (lv_at hl 2 rfl) ?_
  refine lv_i2l (v := lN ma) hx hb d_M_cell_58 (nI_l (by omega)) ?_
  refine cRS (As := [.long (lN fu), .long 0, .long (lN ma)]) (rest := []) K_M_in x_978 hx hb hml hown hts hE hV hS (c_M_in l D ct st (lN fu) 0 (lN ma)) (fun k q h => by simp at h) rfl hl.1 rfl (Nat.le_of_ble_eq_true rfl) d_M_cell_59 (Nat.le_of_ble_eq_true rfl) (Nat.le_of_ble_eq_true rfl) ⟨Nat.le_of_ble_eq_true rfl, Nat.le_of_ble_eq_true rfl⟩ ?_
  refine q_ifeq_b (tgt := 69) hx hb d_M_cell_62 (by decide) (fun h_62 => absurd (w_inN (lo := 0) (hi := ma) (by omega) (by omega) (by omega)) h_62) (fun h_62 => ?_)
  refine lv_iconst (v := 1) hx hb d_M_cell_65 (by decide) ?_
  refine lv_goto (tgt := 70) hx hb d_M_cell_66 (by decide) ?_
  refine lv_istore (lv' := [(6, .int 1), (0, .ref (am 0)), (1, .int (nI k)), (2, .int (nI ma)), (3, .int po), (4, .int (nI en)), (5, .int (nI fu))]) hx hb d_M_cell_70 hl (by decide) rfl (fun ls hl => ?_)
  refine lv_aload_n hx hb d_M_cell_72 rfl (lv_at hl 1 rfl) ?_
  refine lv_iload hx hb d_M_cell_73 (lv_at hl 0 rfl) ?_
  refine lv_if_ne (tgt := 82) hx hb d_M_cell_75 (by decide) (fun _ => ?_) (fun h => absurd h (by decide))
  refine lv_iload_n hx hb d_M_cell_82 rfl (lv_at hl 3 rfl) ?_
  refine lv_i2l (v := lN ma) hx hb d_M_cell_83 (nI_l (by omega)) ?_
  refine lv_iload_n hx hb d_M_cell_84 rfl (lv_at hl 4 rfl) ?_
  refine lv_i2l hx hb d_M_cell_85 rfl ?_
  refine lv_iload hx hb d_M_cell_86 (lv_at hl 5 rfl) ?_
  refine lv_i2l (v := lN en) hx hb d_M_cell_88 (nI_l (by omega)) ?_
  refine cRS (As := [.long (lN ma), .long po.toInt64, .long (lN en)]) (rest := [.ref (am 0)]) K_M_within x_997 hx hb hml hown hts hE hV hS (c_M_within l D ct st (lN ma) po.toInt64 (lN en) (by rw [lN_toInt (by omega)]; omega)) (fun k q h => by simp at h) rfl hl.1 rfl (Nat.le_of_ble_eq_true rfl) d_M_cell_89 (Nat.le_of_ble_eq_true rfl) (Nat.le_of_ble_eq_true rfl) ⟨Nat.le_of_ble_eq_true rfl, Nat.le_of_ble_eq_true rfl⟩ ?_
  refine lv_lconst (v := 0) hx hb d_M_cell_92 (by decide) ?_
  refine W.lcmp hx hb d_M_cell_93 ?_
  refine q_cmp_ge (tgt := 101) hx hb d_M_cell_94 (by decide) (fun h_94 => absurd (Int64.le_iff_toInt_le.mp h_94) (by show ¬ 0 ≤ _; omega)) (fun h_94 => ?_)
  refine lv_iconst (v := 3) hx hb d_M_cell_97 (by decide) ?_
  refine lv_goto (tgt := 102) hx hb d_M_cell_98 (by decide) ?_
  refine q_put (ty := .int) 0 0 (ws1 := [((am 0), .inr (8, [.int 3, .ref (am 1), .ref (am 2), .ref (am 3), .ref (am 4), .ref (am 5), .long bu, .long he, .ref (am 6), .ref (am 7)])), ((am 1), .inl (ct 1, 334, .inr (.inl S)))]) t_M i_M t_M_ok n_M rfl hx hb hts hown hE hP hD hS rfl (by decide) x_936 rfl (by decide +kernel) (rfl) rfl (Nat.le_of_ble_eq_true rfl) rfl d_M_cell_102 (fun H locs hP hD hS => ?_)
  refine lv_aload_n hx hb d_M_cell_105 rfl (lv_at hl 1 rfl) ?_
  refine q_get 0 0 i_M rfl hx hb hts hown hE hP rfl (by decide) x_936 rfl d_M_cell_106 ?_
  refine lv_if_le (tgt := 113) hx hb d_M_cell_109 (by decide) (fun h => absurd h (by decide)) (fun _ => ?_)
  exact rW_v hx hb hr hlk hAe hS hP hD (Nat.le_of_ble_eq_true rfl) (Nat.le_of_ble_eq_true rfl) d_M_cell_112 ⟨rfl, rfl, trivial⟩
set_option maxHeartbeats 4000000 in
set_option maxRecDepth 100000 in
theorem c_M_ignition_ok (l : Launch) (D : va_G) (ct : Nat → ClassId) (st : Nat → Nat) (am : Nat → Nat) (th : Int32) (bu : Int64) (he : Int64) (S : Nat → Int64) (te : Nat) (pa : Nat) (he9 : Nat) (h1 : te ≤ 100000) (h2 : pa ≤ 100) (h3 : he9 ≤ 1000) (sz : Nat) : Met l y_M_ignition (wsy y_M_ignition b_M_ignition 4 (none)) (rmW 1 0 0 25) (PcW D ct st [.ref (am 0), .int (nI te), .int (nI pa), .int (nI he9)] [((am 0), .inr (8, [.int th, .ref (am 1), .ref (am 2), .ref (am 3), .ref (am 4), .ref (am 5), .long bu, .long he, .ref (am 6), .ref (am 7)])), ((am 1), .inl (ct 1, 334, .inr (.inl S)))] sz) (QcW D [((am 0), .inr (8, [.int th, .ref (am 1), .ref (am 2), .ref (am 3), .ref (am 4), .ref (am 5), .long bu, .long he, .ref (am 6), .ref (am 7)])), ((am 1), .inl (ct 1, 334, .inr (.inl S)))] sz (fun v W1 => ∃ (s1 : Nat → Int64), v = none ∧ W1 = [((am 0), .inr (8, [.int 0, .ref (am 1), .ref (am 2), .ref (am 3), .ref (am 4), .ref (am 5), .long bu, .long he, .ref (am 6), .ref (am 7)])), ((am 1), .inl (ct 1, 334, .inr (.inl s1)))] ∧ (s1 = vp_updL (vp_updL (vp_updL S 1 (lN te)) 2 (lN pa)) 3 (lN he9)))) 0 0 (va_A [((am 0), .inr (8, [.int th, .ref (am 1), .ref (am 2), .ref (am 3), .ref (am 4), .ref (am 5), .long bu, .long he, .ref (am 6), .ref (am 7)])), ((am 1), .inl (ct 1, 334, .inr (.inl S)))] sz) := by
  refine enterW (by decide) (Nat.le_of_ble_eq_true rfl) ?_
  intro p e s m args below meth c ls A hx hb hr hml hown hts hlk hin hsz hAe hP hD hA hE hV hS hl
  have hl : lv_has ls 4 [(0, .ref (am 0)), (1, .int (nI te)), (2, .int (nI pa)), (3, .int (nI he9))] := hl
  refine lv_aload_n hx hb d_M_ignition_0 rfl (lv_at hl 0 rfl) ?_
  refine lv_iload_n hx hb d_M_ignition_1 rfl (lv_at hl 1 rfl) ?_
  refine lv_i2l (v := lN te) hx hb d_M_ignition_2 (nI_l (by omega)) ?_
  refine lv_lconst (v := 0) hx hb d_M_ignition_3 (by decide) ?_
  refine lv_ldc2 (v := 100000) hx hb hown (hts _ (List.mem_cons_of_mem _ x_929)) d_M_ignition_4 ?_
  refine cRS (As := [.long (lN te), .long 0, .long 100000]) (rest := [.ref (am 0)]) K_M_in x_978 hx hb hml hown hts hE hV hS (c_M_in l D ct st (lN te) 0 100000) (fun k q h => by simp at h) rfl hl.1 rfl (Nat.le_of_ble_eq_true rfl) d_M_ignition_7 (Nat.le_of_ble_eq_true rfl) (Nat.le_of_ble_eq_true rfl) ⟨Nat.le_of_ble_eq_true rfl, Nat.le_of_ble_eq_true rfl⟩ ?_
  refine q_ifeq_b (tgt := 41) hx hb d_M_ignition_10 (by decide) (fun h_10 => absurd (w_inN (lo := 0) (hi := 100000) (by omega) (by omega) (by omega)) h_10) (fun h_10 => ?_)
  refine lv_iload_n hx hb d_M_ignition_13 rfl (lv_at hl 2 rfl) ?_
  refine lv_i2l (v := lN pa) hx hb d_M_ignition_14 (nI_l (by omega)) ?_
  refine lv_lconst (v := 0) hx hb d_M_ignition_15 (by decide) ?_
  refine lv_ldc2 (v := 100) hx hb hown (hts _ (List.mem_cons_of_mem _ x_1011)) d_M_ignition_16 ?_
  refine cRS (As := [.long (lN pa), .long 0, .long 100]) (rest := [.ref (am 0)]) K_M_in x_978 hx hb hml hown hts hE hV hS (c_M_in l D ct st (lN pa) 0 100) (fun k q h => by simp at h) rfl hl.1 rfl (Nat.le_of_ble_eq_true rfl) d_M_ignition_19 (Nat.le_of_ble_eq_true rfl) (Nat.le_of_ble_eq_true rfl) ⟨Nat.le_of_ble_eq_true rfl, Nat.le_of_ble_eq_true rfl⟩ ?_
  refine q_ifeq_b (tgt := 41) hx hb d_M_ignition_22 (by decide) (fun h_22 => absurd (w_inN (lo := 0) (hi := 100) (by omega) (by omega) (by omega)) h_22) (fun h_22 => ?_)
  refine lv_iload_n hx hb d_M_ignition_25 rfl (lv_at hl 3 rfl) ?_
  refine lv_i2l (v := lN he9) hx hb d_M_ignition_26 (nI_l (by omega)) ?_
  refine lv_lconst (v := 0) hx hb d_M_ignition_27 (by decide) ?_
  refine lv_ldc2 (v := 1000) hx hb hown (hts _ (List.mem_cons_of_mem _ x_934)) d_M_ignition_28 ?_
  refine cRS (As := [.long (lN he9), .long 0, .long 1000]) (rest := [.ref (am 0)]) K_M_in x_978 hx hb hml hown hts hE hV hS (c_M_in l D ct st (lN he9) 0 1000) (fun k q h => by simp at h) rfl hl.1 rfl (Nat.le_of_ble_eq_true rfl) d_M_ignition_31 (Nat.le_of_ble_eq_true rfl) (Nat.le_of_ble_eq_true rfl) ⟨Nat.le_of_ble_eq_true rfl, Nat.le_of_ble_eq_true rfl⟩ ?_
  refine q_ifeq_b (tgt := 41) hx hb d_M_ignition_34 (by decide) (fun h_34 => absurd (w_inN (lo := 0) (hi := 1000) (by omega) (by omega) (by omega)) h_34) (fun h_34 => ?_)
  refine lv_iconst (v := 0) hx hb d_M_ignition_37 (by decide) ?_
  refine lv_goto (tgt := 42) hx hb d_M_ignition_38 (by decide) ?_
  refine q_put (ty := .int) 0 0 (ws1 := [((am 0), .inr (8, [.int 0, .ref (am 1), .ref (am 2), .ref (am 3), .ref (am 4), .ref (am 5), .long bu, .long he, .ref (am 6), .ref (am 7)])), ((am 1), .inl (ct 1, 334, .inr (.inl S)))]) t_M i_M t_M_ok n_M rfl hx hb hts hown hE hP hD hS rfl (by decide) x_936 rfl (by decide +kernel) (rfl) rfl (Nat.le_of_ble_eq_true rfl) rfl d_M_ignition_42 (fun H locs hP hD hS => ?_)
  refine lv_aload_n hx hb d_M_ignition_45 rfl (lv_at hl 0 rfl) ?_
  refine q_get 0 0 i_M rfl hx hb hts hown hE hP rfl (by decide) x_936 rfl d_M_ignition_46 ?_
  refine lv_if_ne (tgt := 76) hx hb d_M_ignition_49 (by decide) (fun h => absurd h (by decide)) (fun _ => ?_)
  refine lv_aload_n hx hb d_M_ignition_52 rfl (lv_at hl 0 rfl) ?_
  refine q_get 0 1 i_M rfl hx hb hts hown hE hP rfl (by decide) x_937 rfl d_M_ignition_53 ?_
  refine lv_iconst (v := 1) hx hb d_M_ignition_56 (by decide) ?_
  refine lv_iload_n hx hb d_M_ignition_57 rfl (lv_at hl 1 rfl) ?_
  refine lv_i2l (v := lN te) hx hb d_M_ignition_58 (nI_l (by omega)) ?_
  obtain ⟨s_1, es_1⟩ : ∃ g9 : Nat → Int64, g9 = vp_updL S 1 (lN te) := ⟨_, rfl⟩
  refine q_last (k := 1) 1 (ws1 := [((am 0), .inr (8, [.int 0, .ref (am 1), .ref (am 2), .ref (am 3), .ref (am 4), .ref (am 5), .long bu, .long he, .ref (am 6), .ref (am 7)])), ((am 1), .inl (ct 1, 334, .inr (.inl s_1)))]) es_1 hx hb hE hP hD hS rfl rfl (by omega) (by decide) rfl d_M_ignition_59 (fun H locs hP hD hS => ?_)
  refine lv_aload_n hx hb d_M_ignition_60 rfl (lv_at hl 0 rfl) ?_
  refine q_get 0 1 i_M rfl hx hb hts hown hE hP rfl (by decide) x_937 rfl d_M_ignition_61 ?_
  refine lv_iconst (v := 2) hx hb d_M_ignition_64 (by decide) ?_
  refine lv_iload_n hx hb d_M_ignition_65 rfl (lv_at hl 2 rfl) ?_
  refine lv_i2l (v := lN pa) hx hb d_M_ignition_66 (nI_l (by omega)) ?_
  obtain ⟨s_2, es_2⟩ : ∃ g9 : Nat → Int64, g9 = vp_updL s_1 2 (lN pa) := ⟨_, rfl⟩
  refine q_last (k := 2) 1 (ws1 := [((am 0), .inr (8, [.int 0, .ref (am 1), .ref (am 2), .ref (am 3), .ref (am 4), .ref (am 5), .long bu, .long he, .ref (am 6), .ref (am 7)])), ((am 1), .inl (ct 1, 334, .inr (.inl s_2)))]) es_2 hx hb hE hP hD hS rfl rfl (by omega) (by decide) rfl d_M_ignition_67 (fun H locs hP hD hS => ?_)
  refine lv_aload_n hx hb d_M_ignition_68 rfl (lv_at hl 0 rfl) ?_
  refine q_get 0 1 i_M rfl hx hb hts hown hE hP rfl (by decide) x_937 rfl d_M_ignition_69 ?_
  refine lv_iconst (v := 3) hx hb d_M_ignition_72 (by decide) ?_
  refine lv_iload_n hx hb d_M_ignition_73 rfl (lv_at hl 3 rfl) ?_
  refine lv_i2l (v := lN he9) hx hb d_M_ignition_74 (nI_l (by omega)) ?_
  obtain ⟨s_3, es_3⟩ : ∃ g9 : Nat → Int64, g9 = vp_updL s_2 3 (lN he9) := ⟨_, rfl⟩
  refine q_last (k := 3) 1 (ws1 := [((am 0), .inr (8, [.int 0, .ref (am 1), .ref (am 2), .ref (am 3), .ref (am 4), .ref (am 5), .long bu, .long he, .ref (am 6), .ref (am 7)])), ((am 1), .inl (ct 1, 334, .inr (.inl s_3)))]) es_3 hx hb hE hP hD hS rfl rfl (by omega) (by decide) rfl d_M_ignition_75 (fun H locs hP hD hS => ?_)
  exact rW_v hx hb hr hlk hAe hS hP hD (Nat.le_of_ble_eq_true rfl) (Nat.le_of_ble_eq_true rfl) d_M_ignition_76 ⟨s_3, rfl, rfl, by rw [es_3, es_2, es_1]⟩
set_option maxHeartbeats 4000000 in
set_option maxRecDepth 100000 in
theorem c_M_ignition_bad (l : Launch) (D : va_G) (ct : Nat → ClassId) (st : Nat → Nat) (am : Nat → Nat) (th : Int32) (bu : Int64) (he : Int64) (S : Nat → Int64) (a0 : Int32) (a1 : Int32) (a2 : Int32) (hb0 : ¬ (w_in a0.toInt64 0 100000 ∧ w_in a1.toInt64 0 100 ∧ w_in a2.toInt64 0 1000)) (sz : Nat) : Met l y_M_ignition (wsy y_M_ignition b_M_ignition 4 (none)) (rmW 1 0 0 25) (PcW D ct st [.ref (am 0), .int a0, .int a1, .int a2] [((am 0), .inr (8, [.int th, .ref (am 1), .ref (am 2), .ref (am 3), .ref (am 4), .ref (am 5), .long bu, .long he, .ref (am 6), .ref (am 7)])), ((am 1), .inl (ct 1, 334, .inr (.inl S)))] sz) (QcW D [((am 0), .inr (8, [.int th, .ref (am 1), .ref (am 2), .ref (am 3), .ref (am 4), .ref (am 5), .long bu, .long he, .ref (am 6), .ref (am 7)])), ((am 1), .inl (ct 1, 334, .inr (.inl S)))] sz (fun v W1 => v = none ∧ W1 = [((am 0), .inr (8, [.int 1, .ref (am 1), .ref (am 2), .ref (am 3), .ref (am 4), .ref (am 5), .long bu, .long he, .ref (am 6), .ref (am 7)])), ((am 1), .inl (ct 1, 334, .inr (.inl S)))] ∧ (True))) 0 0 (va_A [((am 0), .inr (8, [.int th, .ref (am 1), .ref (am 2), .ref (am 3), .ref (am 4), .ref (am 5), .long bu, .long he, .ref (am 6), .ref (am 7)])), ((am 1), .inl (ct 1, 334, .inr (.inl S)))] sz) := by
  refine enterW (by decide) (Nat.le_of_ble_eq_true rfl) ?_
  intro p e s m args below meth c ls A hx hb hr hml hown hts hlk hin hsz hAe hP hD hA hE hV hS hl
  have hl : lv_has ls 4 [(0, .ref (am 0)), (1, .int a0), (2, .int a1), (3, .int a2)] := hl
  refine lv_aload_n hx hb d_M_ignition_0 rfl (lv_at hl 0 rfl) ?_
  refine lv_iload_n hx hb d_M_ignition_1 rfl (lv_at hl 1 rfl) ?_
  refine lv_i2l hx hb d_M_ignition_2 rfl ?_
  refine lv_lconst (v := 0) hx hb d_M_ignition_3 (by decide) ?_
  refine lv_ldc2 (v := 100000) hx hb hown (hts _ (List.mem_cons_of_mem _ x_929)) d_M_ignition_4 ?_
  refine cRS (As := [.long a0.toInt64, .long 0, .long 100000]) (rest := [.ref (am 0)]) K_M_in x_978 hx hb hml hown hts hE hV hS (c_M_in l D ct st a0.toInt64 0 100000) (fun k q h => by simp at h) rfl hl.1 rfl (Nat.le_of_ble_eq_true rfl) d_M_ignition_7 (Nat.le_of_ble_eq_true rfl) (Nat.le_of_ble_eq_true rfl) ⟨Nat.le_of_ble_eq_true rfl, Nat.le_of_ble_eq_true rfl⟩ ?_
  refine q_ifeq_b (tgt := 41) hx hb d_M_ignition_10 (by decide) (fun h_10 => ?_) (fun h_10 => ?_)
  · refine lv_iconst (v := 1) hx hb d_M_ignition_41 (by decide) ?_
    refine q_put (ty := .int) 0 0 (ws1 := [((am 0), .inr (8, [.int 1, .ref (am 1), .ref (am 2), .ref (am 3), .ref (am 4), .ref (am 5), .long bu, .long he, .ref (am 6), .ref (am 7)])), ((am 1), .inl (ct 1, 334, .inr (.inl S)))]) t_M i_M t_M_ok n_M rfl hx hb hts hown hE hP hD hS rfl (by decide) x_936 rfl (by decide +kernel) (rfl) rfl (Nat.le_of_ble_eq_true rfl) rfl d_M_ignition_42 (fun H locs hP hD hS => ?_)
    refine lv_aload_n hx hb d_M_ignition_45 rfl (lv_at hl 0 rfl) ?_
    refine q_get 0 0 i_M rfl hx hb hts hown hE hP rfl (by decide) x_936 rfl d_M_ignition_46 ?_
    refine lv_if_ne (tgt := 76) hx hb d_M_ignition_49 (by decide) (fun _ => ?_) (fun h => absurd h (by decide))
    exact rW_v hx hb hr hlk hAe hS hP hD (Nat.le_of_ble_eq_true rfl) (Nat.le_of_ble_eq_true rfl) d_M_ignition_76 ⟨rfl, rfl, trivial⟩
  · refine lv_iload_n hx hb d_M_ignition_13 rfl (lv_at hl 2 rfl) ?_
    refine lv_i2l hx hb d_M_ignition_14 rfl ?_
    refine lv_lconst (v := 0) hx hb d_M_ignition_15 (by decide) ?_
    refine lv_ldc2 (v := 100) hx hb hown (hts _ (List.mem_cons_of_mem _ x_1011)) d_M_ignition_16 ?_
    refine cRS (As := [.long a1.toInt64, .long 0, .long 100]) (rest := [.ref (am 0)]) K_M_in x_978 hx hb hml hown hts hE hV hS (c_M_in l D ct st a1.toInt64 0 100) (fun k q h => by simp at h) rfl hl.1 rfl (Nat.le_of_ble_eq_true rfl) d_M_ignition_19 (Nat.le_of_ble_eq_true rfl) (Nat.le_of_ble_eq_true rfl) ⟨Nat.le_of_ble_eq_true rfl, Nat.le_of_ble_eq_true rfl⟩ ?_
    refine q_ifeq_b (tgt := 41) hx hb d_M_ignition_22 (by decide) (fun h_22 => ?_) (fun h_22 => ?_)
    · refine lv_iconst (v := 1) hx hb d_M_ignition_41 (by decide) ?_
      refine q_put (ty := .int) 0 0 (ws1 := [((am 0), .inr (8, [.int 1, .ref (am 1), .ref (am 2), .ref (am 3), .ref (am 4), .ref (am 5), .long bu, .long he, .ref (am 6), .ref (am 7)])), ((am 1), .inl (ct 1, 334, .inr (.inl S)))]) t_M i_M t_M_ok n_M rfl hx hb hts hown hE hP hD hS rfl (by decide) x_936 rfl (by decide +kernel) (rfl) rfl (Nat.le_of_ble_eq_true rfl) rfl d_M_ignition_42 (fun H locs hP hD hS => ?_)
      refine lv_aload_n hx hb d_M_ignition_45 rfl (lv_at hl 0 rfl) ?_
      refine q_get 0 0 i_M rfl hx hb hts hown hE hP rfl (by decide) x_936 rfl d_M_ignition_46 ?_
      refine lv_if_ne (tgt := 76) hx hb d_M_ignition_49 (by decide) (fun _ => ?_) (fun h => absurd h (by decide))
      exact rW_v hx hb hr hlk hAe hS hP hD (Nat.le_of_ble_eq_true rfl) (Nat.le_of_ble_eq_true rfl) d_M_ignition_76 ⟨rfl, rfl, trivial⟩
    · refine lv_iload_n hx hb d_M_ignition_25 rfl (lv_at hl 3 rfl) ?_
      refine lv_i2l hx hb d_M_ignition_26 rfl ?_
      refine lv_lconst (v := 0) hx hb d_M_ignition_27 (by decide) ?_
      refine lv_ldc2 (v := 1000) hx hb hown (hts _ (List.mem_cons_of_mem _ x_934)) d_M_ignition_28 ?_
      refine cRS (As := [.long a2.toInt64, .long 0, .long 1000]) (rest := [.ref (am 0)]) K_M_in x_978 hx hb hml hown hts hE hV hS (c_M_in l D ct st a2.toInt64 0 1000) (fun k q h => by simp at h) rfl hl.1 rfl (Nat.le_of_ble_eq_true rfl) d_M_ignition_31 (Nat.le_of_ble_eq_true rfl) (Nat.le_of_ble_eq_true rfl) ⟨Nat.le_of_ble_eq_true rfl, Nat.le_of_ble_eq_true rfl⟩ ?_
      refine q_ifeq_b (tgt := 41) hx hb d_M_ignition_34 (by decide) (fun h_34 => ?_) (fun h_34 => absurd ⟨h_10, h_22, h_34⟩ hb0)
      refine lv_iconst (v := 1) hx hb d_M_ignition_41 (by decide) ?_
      refine q_put (ty := .int) 0 0 (ws1 := [((am 0), .inr (8, [.int 1, .ref (am 1), .ref (am 2), .ref (am 3), .ref (am 4), .ref (am 5), .long bu, .long he, .ref (am 6), .ref (am 7)])), ((am 1), .inl (ct 1, 334, .inr (.inl S)))]) t_M i_M t_M_ok n_M rfl hx hb hts hown hE hP hD hS rfl (by decide) x_936 rfl (by decide +kernel) (rfl) rfl (Nat.le_of_ble_eq_true rfl) rfl d_M_ignition_42 (fun H locs hP hD hS => ?_)
      refine lv_aload_n hx hb d_M_ignition_45 rfl (lv_at hl 0 rfl) ?_
      refine q_get 0 0 i_M rfl hx hb hts hown hE hP rfl (by decide) x_936 rfl d_M_ignition_46 ?_
      refine lv_if_ne (tgt := 76) hx hb d_M_ignition_49 (by decide) (fun _ => ?_) (fun h => absurd h (by decide))
      exact rW_v hx hb hr hlk hAe hS hP hD (Nat.le_of_ble_eq_true rfl) (Nat.le_of_ble_eq_true rfl) d_M_ignition_76 ⟨rfl, rfl, trivial⟩
set_option maxHeartbeats 4000000 in
set_option maxRecDepth 100000 in
theorem c_M_tube_0 (l : Launch) (D : va_G) (ct : Nat → ClassId) (st : Nat → Nat) (am : Nat → Nat) (th : Int32) (bu : Int64) (he : Int64) (S : Nat → Int64) (n : Nat) (k : Nat) (hS4 : S 4 = lN n) (hn : n ≤ 32) (hk : k < n) (sz : Nat) : Met l y_M_tube (wsy y_M_tube b_M_tube 5 (some .int)) (rmW 2 0 0 46) (PcW D ct st [.ref (am 0), .int (nI k), .int 0] [((am 0), .inr (8, [.int th, .ref (am 1), .ref (am 2), .ref (am 3), .ref (am 4), .ref (am 5), .long bu, .long he, .ref (am 6), .ref (am 7)])), ((am 1), .inl (ct 1, 334, .inr (.inl S)))] sz) (QcW D [((am 0), .inr (8, [.int th, .ref (am 1), .ref (am 2), .ref (am 3), .ref (am 4), .ref (am 5), .long bu, .long he, .ref (am 6), .ref (am 7)])), ((am 1), .inl (ct 1, 334, .inr (.inl S)))] sz (fun v W1 => v = some (.int ((S (8 + k)).toInt32)) ∧ W1 = [((am 0), .inr (8, [.int 0, .ref (am 1), .ref (am 2), .ref (am 3), .ref (am 4), .ref (am 5), .long bu, .long he, .ref (am 6), .ref (am 7)])), ((am 1), .inl (ct 1, 334, .inr (.inl S)))] ∧ (True))) 0 0 (va_A [((am 0), .inr (8, [.int th, .ref (am 1), .ref (am 2), .ref (am 3), .ref (am 4), .ref (am 5), .long bu, .long he, .ref (am 6), .ref (am 7)])), ((am 1), .inl (ct 1, 334, .inr (.inl S)))] sz) := by
  refine enterW (by decide) (Nat.le_of_ble_eq_true rfl) ?_
  intro p e s m args below meth c ls A hx hb hr hml hown hts hlk hin hsz hAe hP hD hA hE hV hS hl
  have hl : lv_has ls 5 [(0, .ref (am 0)), (1, .int (nI k)), (2, .int 0)] := hl
  refine lv_aload_n hx hb d_M_tube_0 rfl (lv_at hl 0 rfl) ?_
  refine lv_aload_n hx hb d_M_tube_1 rfl (lv_at hl 0 rfl) ?_
  refine lv_iload_n hx hb d_M_tube_2 rfl (lv_at hl 1 rfl) ?_
  refine cRV (As := [.int (nI k)]) (rest := [.ref (am 0)]) (q9 := 0) (ci := 8) K_M_isCell x_989 hx hb hml hown hts hE hV hS (c_M_isCell l D ct st am th bu he S (nI k)) hP rfl hP rfl rfl hl.1 rfl (Nat.le_of_ble_eq_true rfl) d_M_tube_3 (Nat.le_of_ble_eq_true rfl) (Nat.le_of_ble_eq_true rfl) ⟨Nat.le_of_ble_eq_true rfl, Nat.le_of_ble_eq_true rfl⟩ ?_
  refine q_ifne_b (tgt := 13) hx hb d_M_tube_6 (by decide) (fun h_6 => ?_) (fun h_6 => absurd (cell_in hS4 hk hn) h_6)
  refine lv_iload_n hx hb d_M_tube_13 rfl (lv_at hl 2 rfl) ?_
  refine lv_i2l (v := 0) hx hb d_M_tube_14 (by decide) ?_
  refine lv_lconst (v := 0) hx hb d_M_tube_15 (by decide) ?_
  refine lv_ldc2 (v := 7) hx hb hown (hts _ (List.mem_cons_of_mem _ x_1042)) d_M_tube_16 ?_
  refine cRS (As := [.long 0, .long 0, .long 7]) (rest := [.ref (am 0)]) K_M_in x_978 hx hb hml hown hts hE hV hS (c_M_in l D ct st 0 0 7) (fun k q h => by simp at h) rfl hl.1 rfl (Nat.le_of_ble_eq_true rfl) d_M_tube_19 (Nat.le_of_ble_eq_true rfl) (Nat.le_of_ble_eq_true rfl) ⟨Nat.le_of_ble_eq_true rfl, Nat.le_of_ble_eq_true rfl⟩ ?_
  refine q_ifeq_b (tgt := 29) hx hb d_M_tube_22 (by decide) (fun h_22 => absurd (w_inN (a := 0) (lo := 0) (hi := 7) (by omega) (by omega) (by omega)) h_22) (fun h_22 => ?_)
  refine lv_iconst (v := 0) hx hb d_M_tube_25 (by decide) ?_
  refine lv_goto (tgt := 30) hx hb d_M_tube_26 (by decide) ?_
  refine q_put (ty := .int) 0 0 (ws1 := [((am 0), .inr (8, [.int 0, .ref (am 1), .ref (am 2), .ref (am 3), .ref (am 4), .ref (am 5), .long bu, .long he, .ref (am 6), .ref (am 7)])), ((am 1), .inl (ct 1, 334, .inr (.inl S)))]) t_M i_M t_M_ok n_M rfl hx hb hts hown hE hP hD hS rfl (by decide) x_936 rfl (by decide +kernel) (rfl) rfl (Nat.le_of_ble_eq_true rfl) rfl d_M_tube_30 (fun H locs hP hD hS => ?_)
  refine lv_aload_n hx hb d_M_tube_33 rfl (lv_at hl 0 rfl) ?_
  refine q_get 0 0 i_M rfl hx hb hts hown hE hP rfl (by decide) x_936 rfl d_M_tube_34 ?_
  refine lv_if_le (tgt := 42) hx hb d_M_tube_37 (by decide) (fun _ => ?_) (fun h => absurd h (by decide))
  refine lv_iload_n hx hb d_M_tube_42 rfl (lv_at hl 2 rfl) ?_
  refine lv_iconst (v := 4) hx hb d_M_tube_43 (by decide) ?_
  refine lv_icmp_ge (tgt := 63) hx hb d_M_tube_44 (by decide) (fun h => absurd h (by decide)) (fun _ => ?_)
  refine lv_aload_n hx hb d_M_tube_47 rfl (lv_at hl 0 rfl) ?_
  refine q_get 0 1 i_M rfl hx hb hts hown hE hP rfl (by decide) x_937 rfl d_M_tube_48 ?_
  refine lv_bipush (v := 8) hx hb d_M_tube_51 (by decide) ?_
  refine lv_bipush (v := 32) hx hb d_M_tube_53 (by decide) ?_
  refine lv_iload_n hx hb d_M_tube_55 rfl (lv_at hl 2 rfl) ?_
  refine q_imul (v := 0) hx hb d_M_tube_56 (by decide) ?_
  refine q_iadd (v := 8) hx hb d_M_tube_57 (by decide) ?_
  refine lv_iload_n hx hb d_M_tube_58 rfl (lv_at hl 1 rfl) ?_
  refine q_iadd (v := nI (8 + k)) hx hb d_M_tube_59 (nI_add 8 k) ?_
  refine q_lald (k := 8 + k) 1 hx hb hE hP rfl rfl (by omega) (by decide) d_M_tube_60 ?_
  refine lv_l2i hx hb d_M_tube_61 rfl ?_
  exact rW_i hx hb hr hlk hAe hS hP hD (Nat.le_of_ble_eq_true rfl) (Nat.le_of_ble_eq_true rfl) d_M_tube_62 ⟨rfl, rfl, trivial⟩
set_option maxHeartbeats 4000000 in
set_option maxRecDepth 100000 in
theorem c_M_anew_0 (l : Launch) (D : va_G) (ct : Nat → ClassId) (st : Nat → Nat) (am : Nat → Nat) (th : Int32) (bu : Int64) (he : Int64) (S : Nat → Int64) (n : Nat) (k : Nat) (hS4 : S 4 = lN n) (hn : n ≤ 32) (hk : k < n) (sz : Nat) : Met l y_M_anew (wsy y_M_anew b_M_anew 3 (some .int)) (rmW 2 0 0 46) (PcW D ct st [.ref (am 0), .int (nI k), .int 0] [((am 0), .inr (8, [.int th, .ref (am 1), .ref (am 2), .ref (am 3), .ref (am 4), .ref (am 5), .long bu, .long he, .ref (am 6), .ref (am 7)])), ((am 1), .inl (ct 1, 334, .inr (.inl S)))] sz) (QcW D [((am 0), .inr (8, [.int th, .ref (am 1), .ref (am 2), .ref (am 3), .ref (am 4), .ref (am 5), .long bu, .long he, .ref (am 6), .ref (am 7)])), ((am 1), .inl (ct 1, 334, .inr (.inl S)))] sz (fun v W1 => v = some (.int ((S (8 + k)).toInt32)) ∧ W1 = [((am 0), .inr (8, [.int 0, .ref (am 1), .ref (am 2), .ref (am 3), .ref (am 4), .ref (am 5), .long bu, .long he, .ref (am 6), .ref (am 7)])), ((am 1), .inl (ct 1, 334, .inr (.inl S)))] ∧ (True))) 0 0 (va_A [((am 0), .inr (8, [.int th, .ref (am 1), .ref (am 2), .ref (am 3), .ref (am 4), .ref (am 5), .long bu, .long he, .ref (am 6), .ref (am 7)])), ((am 1), .inl (ct 1, 334, .inr (.inl S)))] sz) := by
  refine enterW (by decide) (Nat.le_of_ble_eq_true rfl) ?_
  intro p e s m args below meth c ls A hx hb hr hml hown hts hlk hin hsz hAe hP hD hA hE hV hS hl
  have hl : lv_has ls 3 [(0, .ref (am 0)), (1, .int (nI k)), (2, .int 0)] := hl
  refine lv_aload_n hx hb d_M_anew_0 rfl (lv_at hl 0 rfl) ?_
  refine lv_aload_n hx hb d_M_anew_1 rfl (lv_at hl 0 rfl) ?_
  refine lv_iload_n hx hb d_M_anew_2 rfl (lv_at hl 1 rfl) ?_
  refine cRV (As := [.int (nI k)]) (rest := [.ref (am 0)]) (q9 := 0) (ci := 8) K_M_isCell x_989 hx hb hml hown hts hE hV hS (c_M_isCell l D ct st am th bu he S (nI k)) hP rfl hP rfl rfl hl.1 rfl (Nat.le_of_ble_eq_true rfl) d_M_anew_3 (Nat.le_of_ble_eq_true rfl) (Nat.le_of_ble_eq_true rfl) ⟨Nat.le_of_ble_eq_true rfl, Nat.le_of_ble_eq_true rfl⟩ ?_
  refine q_ifne_b (tgt := 13) hx hb d_M_anew_6 (by decide) (fun h_6 => ?_) (fun h_6 => absurd (cell_in hS4 hk hn) h_6)
  refine lv_iload_n hx hb d_M_anew_13 rfl (lv_at hl 2 rfl) ?_
  refine lv_i2l (v := 0) hx hb d_M_anew_14 (by decide) ?_
  refine lv_lconst (v := 0) hx hb d_M_anew_15 (by decide) ?_
  refine lv_ldc2 (v := 3) hx hb hown (hts _ (List.mem_cons_of_mem _ x_1045)) d_M_anew_16 ?_
  refine cRS (As := [.long 0, .long 0, .long 3]) (rest := [.ref (am 0)]) K_M_in x_978 hx hb hml hown hts hE hV hS (c_M_in l D ct st 0 0 3) (fun k q h => by simp at h) rfl hl.1 rfl (Nat.le_of_ble_eq_true rfl) d_M_anew_19 (Nat.le_of_ble_eq_true rfl) (Nat.le_of_ble_eq_true rfl) ⟨Nat.le_of_ble_eq_true rfl, Nat.le_of_ble_eq_true rfl⟩ ?_
  refine q_ifeq_b (tgt := 29) hx hb d_M_anew_22 (by decide) (fun h_22 => absurd (w_inN (a := 0) (lo := 0) (hi := 3) (by omega) (by omega) (by omega)) h_22) (fun h_22 => ?_)
  refine lv_iconst (v := 0) hx hb d_M_anew_25 (by decide) ?_
  refine lv_goto (tgt := 30) hx hb d_M_anew_26 (by decide) ?_
  refine q_put (ty := .int) 0 0 (ws1 := [((am 0), .inr (8, [.int 0, .ref (am 1), .ref (am 2), .ref (am 3), .ref (am 4), .ref (am 5), .long bu, .long he, .ref (am 6), .ref (am 7)])), ((am 1), .inl (ct 1, 334, .inr (.inl S)))]) t_M i_M t_M_ok n_M rfl hx hb hts hown hE hP hD hS rfl (by decide) x_936 rfl (by decide +kernel) (rfl) rfl (Nat.le_of_ble_eq_true rfl) rfl d_M_anew_30 (fun H locs hP hD hS => ?_)
  refine lv_aload_n hx hb d_M_anew_33 rfl (lv_at hl 0 rfl) ?_
  refine q_get 0 0 i_M rfl hx hb hts hown hE hP rfl (by decide) x_936 rfl d_M_anew_34 ?_
  refine lv_if_le (tgt := 44) hx hb d_M_anew_37 (by decide) (fun _ => ?_) (fun h => absurd h (by decide))
  refine lv_aload_n hx hb d_M_anew_44 rfl (lv_at hl 0 rfl) ?_
  refine q_get 0 1 i_M rfl hx hb hts hown hE hP rfl (by decide) x_937 rfl d_M_anew_45 ?_
  refine lv_bipush (v := 8) hx hb d_M_anew_48 (by decide) ?_
  refine lv_bipush (v := 32) hx hb d_M_anew_50 (by decide) ?_
  refine lv_iload_n hx hb d_M_anew_52 rfl (lv_at hl 2 rfl) ?_
  refine q_imul (v := 0) hx hb d_M_anew_53 (by decide) ?_
  refine q_iadd (v := 8) hx hb d_M_anew_54 (by decide) ?_
  refine lv_iload_n hx hb d_M_anew_55 rfl (lv_at hl 1 rfl) ?_
  refine q_iadd (v := nI (8 + k)) hx hb d_M_anew_56 (nI_add 8 k) ?_
  refine q_lald (k := 8 + k) 1 hx hb hE hP rfl rfl (by omega) (by decide) d_M_anew_57 ?_
  refine lv_l2i hx hb d_M_anew_58 rfl ?_
  exact rW_i hx hb hr hlk hAe hS hP hD (Nat.le_of_ble_eq_true rfl) (Nat.le_of_ble_eq_true rfl) d_M_anew_59 ⟨rfl, rfl, trivial⟩
set_option maxHeartbeats 4000000 in
set_option maxRecDepth 100000 in
theorem c_M_probe_0 (l : Launch) (D : va_G) (ct : Nat → ClassId) (st : Nat → Nat) (am : Nat → Nat) (th : Int32) (bu : Int64) (he : Int64) (S : Nat → Int64) (n : Nat) (k : Nat) (hS4 : S 4 = lN n) (hn : n ≤ 32) (hk : k < n) (sz : Nat) : Met l y_M_probe (wsy y_M_probe b_M_probe 3 (some .int)) (rmW 2 0 0 46) (PcW D ct st [.ref (am 0), .int (nI k), .int 0] [((am 0), .inr (8, [.int th, .ref (am 1), .ref (am 2), .ref (am 3), .ref (am 4), .ref (am 5), .long bu, .long he, .ref (am 6), .ref (am 7)])), ((am 1), .inl (ct 1, 334, .inr (.inl S)))] sz) (QcW D [((am 0), .inr (8, [.int th, .ref (am 1), .ref (am 2), .ref (am 3), .ref (am 4), .ref (am 5), .long bu, .long he, .ref (am 6), .ref (am 7)])), ((am 1), .inl (ct 1, 334, .inr (.inl S)))] sz (fun v W1 => v = some (.int (w_gr (S (146 + k)))) ∧ W1 = [((am 0), .inr (8, [.int 0, .ref (am 1), .ref (am 2), .ref (am 3), .ref (am 4), .ref (am 5), .long bu, .long he, .ref (am 6), .ref (am 7)])), ((am 1), .inl (ct 1, 334, .inr (.inl S)))] ∧ (True))) 0 0 (va_A [((am 0), .inr (8, [.int th, .ref (am 1), .ref (am 2), .ref (am 3), .ref (am 4), .ref (am 5), .long bu, .long he, .ref (am 6), .ref (am 7)])), ((am 1), .inl (ct 1, 334, .inr (.inl S)))] sz) := by
  refine enterW (by decide) (Nat.le_of_ble_eq_true rfl) ?_
  intro p e s m args below meth c ls A hx hb hr hml hown hts hlk hin hsz hAe hP hD hA hE hV hS hl
  have hl : lv_has ls 3 [(0, .ref (am 0)), (1, .int (nI k)), (2, .int 0)] := hl
  refine lv_aload_n hx hb d_M_probe_0 rfl (lv_at hl 0 rfl) ?_
  refine lv_aload_n hx hb d_M_probe_1 rfl (lv_at hl 0 rfl) ?_
  refine lv_iload_n hx hb d_M_probe_2 rfl (lv_at hl 1 rfl) ?_
  refine cRV (As := [.int (nI k)]) (rest := [.ref (am 0)]) (q9 := 0) (ci := 8) K_M_isCell x_989 hx hb hml hown hts hE hV hS (c_M_isCell l D ct st am th bu he S (nI k)) hP rfl hP rfl rfl hl.1 rfl (Nat.le_of_ble_eq_true rfl) d_M_probe_3 (Nat.le_of_ble_eq_true rfl) (Nat.le_of_ble_eq_true rfl) ⟨Nat.le_of_ble_eq_true rfl, Nat.le_of_ble_eq_true rfl⟩ ?_
  refine q_ifne_b (tgt := 13) hx hb d_M_probe_6 (by decide) (fun h_6 => ?_) (fun h_6 => absurd (cell_in hS4 hk hn) h_6)
  refine lv_iload_n hx hb d_M_probe_13 rfl (lv_at hl 2 rfl) ?_
  refine lv_i2l (v := 0) hx hb d_M_probe_14 (by decide) ?_
  refine lv_lconst (v := 0) hx hb d_M_probe_15 (by decide) ?_
  refine lv_lconst (v := 1) hx hb d_M_probe_16 (by decide) ?_
  refine cRS (As := [.long 0, .long 0, .long 1]) (rest := [.ref (am 0)]) K_M_in x_978 hx hb hml hown hts hE hV hS (c_M_in l D ct st 0 0 1) (fun k q h => by simp at h) rfl hl.1 rfl (Nat.le_of_ble_eq_true rfl) d_M_probe_17 (Nat.le_of_ble_eq_true rfl) (Nat.le_of_ble_eq_true rfl) ⟨Nat.le_of_ble_eq_true rfl, Nat.le_of_ble_eq_true rfl⟩ ?_
  refine q_ifeq_b (tgt := 27) hx hb d_M_probe_20 (by decide) (fun h_20 => absurd (w_inN (a := 0) (lo := 0) (hi := 1) (by omega) (by omega) (by omega)) h_20) (fun h_20 => ?_)
  refine lv_iconst (v := 0) hx hb d_M_probe_23 (by decide) ?_
  refine lv_goto (tgt := 28) hx hb d_M_probe_24 (by decide) ?_
  refine q_put (ty := .int) 0 0 (ws1 := [((am 0), .inr (8, [.int 0, .ref (am 1), .ref (am 2), .ref (am 3), .ref (am 4), .ref (am 5), .long bu, .long he, .ref (am 6), .ref (am 7)])), ((am 1), .inl (ct 1, 334, .inr (.inl S)))]) t_M i_M t_M_ok n_M rfl hx hb hts hown hE hP hD hS rfl (by decide) x_936 rfl (by decide +kernel) (rfl) rfl (Nat.le_of_ble_eq_true rfl) rfl d_M_probe_28 (fun H locs hP hD hS => ?_)
  refine lv_aload_n hx hb d_M_probe_31 rfl (lv_at hl 0 rfl) ?_
  refine q_get 0 0 i_M rfl hx hb hts hown hE hP rfl (by decide) x_936 rfl d_M_probe_32 ?_
  refine lv_if_le (tgt := 42) hx hb d_M_probe_35 (by decide) (fun _ => ?_) (fun h => absurd h (by decide))
  refine lv_iload_n hx hb d_M_probe_42 rfl (lv_at hl 2 rfl) ?_
  refine lv_if_ne (tgt := 59) hx hb d_M_probe_43 (by decide) (fun h => absurd h (by decide)) (fun _ => ?_)
  refine lv_aload_n hx hb d_M_probe_46 rfl (lv_at hl 0 rfl) ?_
  refine q_get 0 1 i_M rfl hx hb hts hown hE hP rfl (by decide) x_937 rfl d_M_probe_47 ?_
  refine lv_sipush (v := 146) hx hb d_M_probe_50 (by decide) ?_
  refine lv_iload_n hx hb d_M_probe_53 rfl (lv_at hl 1 rfl) ?_
  refine q_iadd (v := nI (146 + k)) hx hb d_M_probe_54 (nI_add 146 k) ?_
  refine q_lald (k := 146 + k) 1 hx hb hE hP rfl rfl (by omega) (by decide) d_M_probe_55 ?_
  refine lv_goto (tgt := 69) hx hb d_M_probe_56 (by decide) ?_
  refine cRS (As := [.long (S (146 + k))]) (rest := []) K_M_greatest x_1089 hx hb hml hown hts hE hV hS (c_M_greatest l D ct st (S (146 + k))) (fun k q h => by simp at h) rfl hl.1 rfl (Nat.le_of_ble_eq_true rfl) d_M_probe_69 (Nat.le_of_ble_eq_true rfl) (Nat.le_of_ble_eq_true rfl) ⟨Nat.le_of_ble_eq_true rfl, Nat.le_of_ble_eq_true rfl⟩ ?_
  exact rW_i hx hb hr hlk hAe hS hP hD (Nat.le_of_ble_eq_true rfl) (Nat.le_of_ble_eq_true rfl) d_M_probe_72 ⟨rfl, rfl, trivial⟩
set_option maxHeartbeats 4000000 in
set_option maxRecDepth 100000 in
theorem c_M_came_0 (l : Launch) (D : va_G) (ct : Nat → ClassId) (st : Nat → Nat) (am : Nat → Nat) (th : Int32) (bu : Int64) (he : Int64) (S : Nat → Int64) (sz : Nat) : Met l y_M_came (wsy y_M_came b_M_came 2 (some .long)) (rmW 1 0 0 25) (PcW D ct st [.ref (am 0), .int 0] [((am 0), .inr (8, [.int th, .ref (am 1), .ref (am 2), .ref (am 3), .ref (am 4), .ref (am 5), .long bu, .long he, .ref (am 6), .ref (am 7)])), ((am 1), .inl (ct 1, 334, .inr (.inl S)))] sz) (QcW D [((am 0), .inr (8, [.int th, .ref (am 1), .ref (am 2), .ref (am 3), .ref (am 4), .ref (am 5), .long bu, .long he, .ref (am 6), .ref (am 7)])), ((am 1), .inl (ct 1, 334, .inr (.inl S)))] sz (fun v W1 => v = some (.long (S 136)) ∧ W1 = [((am 0), .inr (8, [.int 0, .ref (am 1), .ref (am 2), .ref (am 3), .ref (am 4), .ref (am 5), .long bu, .long he, .ref (am 6), .ref (am 7)])), ((am 1), .inl (ct 1, 334, .inr (.inl S)))] ∧ (True))) 0 0 (va_A [((am 0), .inr (8, [.int th, .ref (am 1), .ref (am 2), .ref (am 3), .ref (am 4), .ref (am 5), .long bu, .long he, .ref (am 6), .ref (am 7)])), ((am 1), .inl (ct 1, 334, .inr (.inl S)))] sz) := by
  refine enterW (by decide) (Nat.le_of_ble_eq_true rfl) ?_
  intro p e s m args below meth c ls A hx hb hr hml hown hts hlk hin hsz hAe hP hD hA hE hV hS hl
  have hl : lv_has ls 2 [(0, .ref (am 0)), (1, .int 0)] := hl
  refine lv_aload_n hx hb d_M_came_0 rfl (lv_at hl 0 rfl) ?_
  refine lv_iload_n hx hb d_M_came_1 rfl (lv_at hl 1 rfl) ?_
  refine lv_i2l (v := 0) hx hb d_M_came_2 (by decide) ?_
  refine lv_lconst (v := 0) hx hb d_M_came_3 (by decide) ?_
  refine lv_ldc2 (v := 5) hx hb hown (hts _ (List.mem_cons_of_mem _ x_1043)) d_M_came_4 ?_
  refine cRS (As := [.long 0, .long 0, .long 5]) (rest := [.ref (am 0)]) K_M_in x_978 hx hb hml hown hts hE hV hS (c_M_in l D ct st 0 0 5) (fun k q h => by simp at h) rfl hl.1 rfl (Nat.le_of_ble_eq_true rfl) d_M_came_7 (Nat.le_of_ble_eq_true rfl) (Nat.le_of_ble_eq_true rfl) ⟨Nat.le_of_ble_eq_true rfl, Nat.le_of_ble_eq_true rfl⟩ ?_
  refine q_ifeq_b (tgt := 17) hx hb d_M_came_10 (by decide) (fun h_10 => absurd (w_inN (a := 0) (lo := 0) (hi := 5) (by omega) (by omega) (by omega)) h_10) (fun h_10 => ?_)
  refine lv_iconst (v := 0) hx hb d_M_came_13 (by decide) ?_
  refine lv_goto (tgt := 18) hx hb d_M_came_14 (by decide) ?_
  refine q_put (ty := .int) 0 0 (ws1 := [((am 0), .inr (8, [.int 0, .ref (am 1), .ref (am 2), .ref (am 3), .ref (am 4), .ref (am 5), .long bu, .long he, .ref (am 6), .ref (am 7)])), ((am 1), .inl (ct 1, 334, .inr (.inl S)))]) t_M i_M t_M_ok n_M rfl hx hb hts hown hE hP hD hS rfl (by decide) x_936 rfl (by decide +kernel) (rfl) rfl (Nat.le_of_ble_eq_true rfl) rfl d_M_came_18 (fun H locs hP hD hS => ?_)
  refine lv_aload_n hx hb d_M_came_21 rfl (lv_at hl 0 rfl) ?_
  refine q_get 0 0 i_M rfl hx hb hts hown hE hP rfl (by decide) x_936 rfl d_M_came_22 ?_
  refine lv_if_le (tgt := 32) hx hb d_M_came_25 (by decide) (fun _ => ?_) (fun h => absurd h (by decide))
  refine lv_aload_n hx hb d_M_came_32 rfl (lv_at hl 0 rfl) ?_
  refine q_get 0 1 i_M rfl hx hb hts hown hE hP rfl (by decide) x_937 rfl d_M_came_33 ?_
  refine lv_sipush (v := 136) hx hb d_M_came_36 (by decide) ?_
  refine lv_iload_n hx hb d_M_came_39 rfl (lv_at hl 1 rfl) ?_
  refine q_iadd (v := 136) hx hb d_M_came_40 (by decide) ?_
  refine q_lald (k := 136) 1 hx hb hE hP rfl rfl (by omega) (by decide) d_M_came_41 ?_
  exact rW_l hx hb hr hlk hAe hS hP hD (Nat.le_of_ble_eq_true rfl) (Nat.le_of_ble_eq_true rfl) d_M_came_42 ⟨rfl, rfl, trivial⟩
set_option maxHeartbeats 4000000 in
set_option maxRecDepth 100000 in
theorem c_M_tube_1 (l : Launch) (D : va_G) (ct : Nat → ClassId) (st : Nat → Nat) (am : Nat → Nat) (th : Int32) (bu : Int64) (he : Int64) (S : Nat → Int64) (n : Nat) (k : Nat) (hS4 : S 4 = lN n) (hn : n ≤ 32) (hk : k < n) (sz : Nat) : Met l y_M_tube (wsy y_M_tube b_M_tube 5 (some .int)) (rmW 2 0 0 46) (PcW D ct st [.ref (am 0), .int (nI k), .int 1] [((am 0), .inr (8, [.int th, .ref (am 1), .ref (am 2), .ref (am 3), .ref (am 4), .ref (am 5), .long bu, .long he, .ref (am 6), .ref (am 7)])), ((am 1), .inl (ct 1, 334, .inr (.inl S)))] sz) (QcW D [((am 0), .inr (8, [.int th, .ref (am 1), .ref (am 2), .ref (am 3), .ref (am 4), .ref (am 5), .long bu, .long he, .ref (am 6), .ref (am 7)])), ((am 1), .inl (ct 1, 334, .inr (.inl S)))] sz (fun v W1 => v = some (.int ((S (40 + k)).toInt32)) ∧ W1 = [((am 0), .inr (8, [.int 0, .ref (am 1), .ref (am 2), .ref (am 3), .ref (am 4), .ref (am 5), .long bu, .long he, .ref (am 6), .ref (am 7)])), ((am 1), .inl (ct 1, 334, .inr (.inl S)))] ∧ (True))) 0 0 (va_A [((am 0), .inr (8, [.int th, .ref (am 1), .ref (am 2), .ref (am 3), .ref (am 4), .ref (am 5), .long bu, .long he, .ref (am 6), .ref (am 7)])), ((am 1), .inl (ct 1, 334, .inr (.inl S)))] sz) := by
  refine enterW (by decide) (Nat.le_of_ble_eq_true rfl) ?_
  intro p e s m args below meth c ls A hx hb hr hml hown hts hlk hin hsz hAe hP hD hA hE hV hS hl
  have hl : lv_has ls 5 [(0, .ref (am 0)), (1, .int (nI k)), (2, .int 1)] := hl
  refine lv_aload_n hx hb d_M_tube_0 rfl (lv_at hl 0 rfl) ?_
  refine lv_aload_n hx hb d_M_tube_1 rfl (lv_at hl 0 rfl) ?_
  refine lv_iload_n hx hb d_M_tube_2 rfl (lv_at hl 1 rfl) ?_
  refine cRV (As := [.int (nI k)]) (rest := [.ref (am 0)]) (q9 := 0) (ci := 8) K_M_isCell x_989 hx hb hml hown hts hE hV hS (c_M_isCell l D ct st am th bu he S (nI k)) hP rfl hP rfl rfl hl.1 rfl (Nat.le_of_ble_eq_true rfl) d_M_tube_3 (Nat.le_of_ble_eq_true rfl) (Nat.le_of_ble_eq_true rfl) ⟨Nat.le_of_ble_eq_true rfl, Nat.le_of_ble_eq_true rfl⟩ ?_
  refine q_ifne_b (tgt := 13) hx hb d_M_tube_6 (by decide) (fun h_6 => ?_) (fun h_6 => absurd (cell_in hS4 hk hn) h_6)
  refine lv_iload_n hx hb d_M_tube_13 rfl (lv_at hl 2 rfl) ?_
  refine lv_i2l (v := 1) hx hb d_M_tube_14 (by decide) ?_
  refine lv_lconst (v := 0) hx hb d_M_tube_15 (by decide) ?_
  refine lv_ldc2 (v := 7) hx hb hown (hts _ (List.mem_cons_of_mem _ x_1042)) d_M_tube_16 ?_
  refine cRS (As := [.long 1, .long 0, .long 7]) (rest := [.ref (am 0)]) K_M_in x_978 hx hb hml hown hts hE hV hS (c_M_in l D ct st 1 0 7) (fun k q h => by simp at h) rfl hl.1 rfl (Nat.le_of_ble_eq_true rfl) d_M_tube_19 (Nat.le_of_ble_eq_true rfl) (Nat.le_of_ble_eq_true rfl) ⟨Nat.le_of_ble_eq_true rfl, Nat.le_of_ble_eq_true rfl⟩ ?_
  refine q_ifeq_b (tgt := 29) hx hb d_M_tube_22 (by decide) (fun h_22 => absurd (w_inN (a := 1) (lo := 0) (hi := 7) (by omega) (by omega) (by omega)) h_22) (fun h_22 => ?_)
  refine lv_iconst (v := 0) hx hb d_M_tube_25 (by decide) ?_
  refine lv_goto (tgt := 30) hx hb d_M_tube_26 (by decide) ?_
  refine q_put (ty := .int) 0 0 (ws1 := [((am 0), .inr (8, [.int 0, .ref (am 1), .ref (am 2), .ref (am 3), .ref (am 4), .ref (am 5), .long bu, .long he, .ref (am 6), .ref (am 7)])), ((am 1), .inl (ct 1, 334, .inr (.inl S)))]) t_M i_M t_M_ok n_M rfl hx hb hts hown hE hP hD hS rfl (by decide) x_936 rfl (by decide +kernel) (rfl) rfl (Nat.le_of_ble_eq_true rfl) rfl d_M_tube_30 (fun H locs hP hD hS => ?_)
  refine lv_aload_n hx hb d_M_tube_33 rfl (lv_at hl 0 rfl) ?_
  refine q_get 0 0 i_M rfl hx hb hts hown hE hP rfl (by decide) x_936 rfl d_M_tube_34 ?_
  refine lv_if_le (tgt := 42) hx hb d_M_tube_37 (by decide) (fun _ => ?_) (fun h => absurd h (by decide))
  refine lv_iload_n hx hb d_M_tube_42 rfl (lv_at hl 2 rfl) ?_
  refine lv_iconst (v := 4) hx hb d_M_tube_43 (by decide) ?_
  refine lv_icmp_ge (tgt := 63) hx hb d_M_tube_44 (by decide) (fun h => absurd h (by decide)) (fun _ => ?_)
  refine lv_aload_n hx hb d_M_tube_47 rfl (lv_at hl 0 rfl) ?_
  refine q_get 0 1 i_M rfl hx hb hts hown hE hP rfl (by decide) x_937 rfl d_M_tube_48 ?_
  refine lv_bipush (v := 8) hx hb d_M_tube_51 (by decide) ?_
  refine lv_bipush (v := 32) hx hb d_M_tube_53 (by decide) ?_
  refine lv_iload_n hx hb d_M_tube_55 rfl (lv_at hl 2 rfl) ?_
  refine q_imul (v := 32) hx hb d_M_tube_56 (by decide) ?_
  refine q_iadd (v := 40) hx hb d_M_tube_57 (by decide) ?_
  refine lv_iload_n hx hb d_M_tube_58 rfl (lv_at hl 1 rfl) ?_
  refine q_iadd (v := nI (40 + k)) hx hb d_M_tube_59 (nI_add 40 k) ?_
  refine q_lald (k := 40 + k) 1 hx hb hE hP rfl rfl (by omega) (by decide) d_M_tube_60 ?_
  refine lv_l2i hx hb d_M_tube_61 rfl ?_
  exact rW_i hx hb hr hlk hAe hS hP hD (Nat.le_of_ble_eq_true rfl) (Nat.le_of_ble_eq_true rfl) d_M_tube_62 ⟨rfl, rfl, trivial⟩
set_option maxHeartbeats 4000000 in
set_option maxRecDepth 100000 in
theorem c_M_anew_1 (l : Launch) (D : va_G) (ct : Nat → ClassId) (st : Nat → Nat) (am : Nat → Nat) (th : Int32) (bu : Int64) (he : Int64) (S : Nat → Int64) (n : Nat) (k : Nat) (hS4 : S 4 = lN n) (hn : n ≤ 32) (hk : k < n) (sz : Nat) : Met l y_M_anew (wsy y_M_anew b_M_anew 3 (some .int)) (rmW 2 0 0 46) (PcW D ct st [.ref (am 0), .int (nI k), .int 1] [((am 0), .inr (8, [.int th, .ref (am 1), .ref (am 2), .ref (am 3), .ref (am 4), .ref (am 5), .long bu, .long he, .ref (am 6), .ref (am 7)])), ((am 1), .inl (ct 1, 334, .inr (.inl S)))] sz) (QcW D [((am 0), .inr (8, [.int th, .ref (am 1), .ref (am 2), .ref (am 3), .ref (am 4), .ref (am 5), .long bu, .long he, .ref (am 6), .ref (am 7)])), ((am 1), .inl (ct 1, 334, .inr (.inl S)))] sz (fun v W1 => v = some (.int ((S (40 + k)).toInt32)) ∧ W1 = [((am 0), .inr (8, [.int 0, .ref (am 1), .ref (am 2), .ref (am 3), .ref (am 4), .ref (am 5), .long bu, .long he, .ref (am 6), .ref (am 7)])), ((am 1), .inl (ct 1, 334, .inr (.inl S)))] ∧ (True))) 0 0 (va_A [((am 0), .inr (8, [.int th, .ref (am 1), .ref (am 2), .ref (am 3), .ref (am 4), .ref (am 5), .long bu, .long he, .ref (am 6), .ref (am 7)])), ((am 1), .inl (ct 1, 334, .inr (.inl S)))] sz) := by
  refine enterW (by decide) (Nat.le_of_ble_eq_true rfl) ?_
  intro p e s m args below meth c ls A hx hb hr hml hown hts hlk hin hsz hAe hP hD hA hE hV hS hl
  have hl : lv_has ls 3 [(0, .ref (am 0)), (1, .int (nI k)), (2, .int 1)] := hl
  refine lv_aload_n hx hb d_M_anew_0 rfl (lv_at hl 0 rfl) ?_
  refine lv_aload_n hx hb d_M_anew_1 rfl (lv_at hl 0 rfl) ?_
  refine lv_iload_n hx hb d_M_anew_2 rfl (lv_at hl 1 rfl) ?_
  refine cRV (As := [.int (nI k)]) (rest := [.ref (am 0)]) (q9 := 0) (ci := 8) K_M_isCell x_989 hx hb hml hown hts hE hV hS (c_M_isCell l D ct st am th bu he S (nI k)) hP rfl hP rfl rfl hl.1 rfl (Nat.le_of_ble_eq_true rfl) d_M_anew_3 (Nat.le_of_ble_eq_true rfl) (Nat.le_of_ble_eq_true rfl) ⟨Nat.le_of_ble_eq_true rfl, Nat.le_of_ble_eq_true rfl⟩ ?_
  refine q_ifne_b (tgt := 13) hx hb d_M_anew_6 (by decide) (fun h_6 => ?_) (fun h_6 => absurd (cell_in hS4 hk hn) h_6)
  refine lv_iload_n hx hb d_M_anew_13 rfl (lv_at hl 2 rfl) ?_
  refine lv_i2l (v := 1) hx hb d_M_anew_14 (by decide) ?_
  refine lv_lconst (v := 0) hx hb d_M_anew_15 (by decide) ?_
  refine lv_ldc2 (v := 3) hx hb hown (hts _ (List.mem_cons_of_mem _ x_1045)) d_M_anew_16 ?_
  refine cRS (As := [.long 1, .long 0, .long 3]) (rest := [.ref (am 0)]) K_M_in x_978 hx hb hml hown hts hE hV hS (c_M_in l D ct st 1 0 3) (fun k q h => by simp at h) rfl hl.1 rfl (Nat.le_of_ble_eq_true rfl) d_M_anew_19 (Nat.le_of_ble_eq_true rfl) (Nat.le_of_ble_eq_true rfl) ⟨Nat.le_of_ble_eq_true rfl, Nat.le_of_ble_eq_true rfl⟩ ?_
  refine q_ifeq_b (tgt := 29) hx hb d_M_anew_22 (by decide) (fun h_22 => absurd (w_inN (a := 1) (lo := 0) (hi := 3) (by omega) (by omega) (by omega)) h_22) (fun h_22 => ?_)
  refine lv_iconst (v := 0) hx hb d_M_anew_25 (by decide) ?_
  refine lv_goto (tgt := 30) hx hb d_M_anew_26 (by decide) ?_
  refine q_put (ty := .int) 0 0 (ws1 := [((am 0), .inr (8, [.int 0, .ref (am 1), .ref (am 2), .ref (am 3), .ref (am 4), .ref (am 5), .long bu, .long he, .ref (am 6), .ref (am 7)])), ((am 1), .inl (ct 1, 334, .inr (.inl S)))]) t_M i_M t_M_ok n_M rfl hx hb hts hown hE hP hD hS rfl (by decide) x_936 rfl (by decide +kernel) (rfl) rfl (Nat.le_of_ble_eq_true rfl) rfl d_M_anew_30 (fun H locs hP hD hS => ?_)
  refine lv_aload_n hx hb d_M_anew_33 rfl (lv_at hl 0 rfl) ?_
  refine q_get 0 0 i_M rfl hx hb hts hown hE hP rfl (by decide) x_936 rfl d_M_anew_34 ?_
  refine lv_if_le (tgt := 44) hx hb d_M_anew_37 (by decide) (fun _ => ?_) (fun h => absurd h (by decide))
  refine lv_aload_n hx hb d_M_anew_44 rfl (lv_at hl 0 rfl) ?_
  refine q_get 0 1 i_M rfl hx hb hts hown hE hP rfl (by decide) x_937 rfl d_M_anew_45 ?_
  refine lv_bipush (v := 8) hx hb d_M_anew_48 (by decide) ?_
  refine lv_bipush (v := 32) hx hb d_M_anew_50 (by decide) ?_
  refine lv_iload_n hx hb d_M_anew_52 rfl (lv_at hl 2 rfl) ?_
  refine q_imul (v := 32) hx hb d_M_anew_53 (by decide) ?_
  refine q_iadd (v := 40) hx hb d_M_anew_54 (by decide) ?_
  refine lv_iload_n hx hb d_M_anew_55 rfl (lv_at hl 1 rfl) ?_
  refine q_iadd (v := nI (40 + k)) hx hb d_M_anew_56 (nI_add 40 k) ?_
  refine q_lald (k := 40 + k) 1 hx hb hE hP rfl rfl (by omega) (by decide) d_M_anew_57 ?_
  refine lv_l2i hx hb d_M_anew_58 rfl ?_
  exact rW_i hx hb hr hlk hAe hS hP hD (Nat.le_of_ble_eq_true rfl) (Nat.le_of_ble_eq_true rfl) d_M_anew_59 ⟨rfl, rfl, trivial⟩
set_option maxHeartbeats 4000000 in
set_option maxRecDepth 100000 in
theorem c_M_probe_1 (l : Launch) (D : va_G) (ct : Nat → ClassId) (st : Nat → Nat) (am : Nat → Nat) (th : Int32) (bu : Int64) (he : Int64) (S : Nat → Int64) (n : Nat) (k : Nat) (hS4 : S 4 = lN n) (hn : n ≤ 32) (hk : k < n) (sz : Nat) : Met l y_M_probe (wsy y_M_probe b_M_probe 3 (some .int)) (rmW 2 0 0 46) (PcW D ct st [.ref (am 0), .int (nI k), .int 1] [((am 0), .inr (8, [.int th, .ref (am 1), .ref (am 2), .ref (am 3), .ref (am 4), .ref (am 5), .long bu, .long he, .ref (am 6), .ref (am 7)])), ((am 1), .inl (ct 1, 334, .inr (.inl S)))] sz) (QcW D [((am 0), .inr (8, [.int th, .ref (am 1), .ref (am 2), .ref (am 3), .ref (am 4), .ref (am 5), .long bu, .long he, .ref (am 6), .ref (am 7)])), ((am 1), .inl (ct 1, 334, .inr (.inl S)))] sz (fun v W1 => v = some (.int (w_gr (S (178 + k)))) ∧ W1 = [((am 0), .inr (8, [.int 0, .ref (am 1), .ref (am 2), .ref (am 3), .ref (am 4), .ref (am 5), .long bu, .long he, .ref (am 6), .ref (am 7)])), ((am 1), .inl (ct 1, 334, .inr (.inl S)))] ∧ (True))) 0 0 (va_A [((am 0), .inr (8, [.int th, .ref (am 1), .ref (am 2), .ref (am 3), .ref (am 4), .ref (am 5), .long bu, .long he, .ref (am 6), .ref (am 7)])), ((am 1), .inl (ct 1, 334, .inr (.inl S)))] sz) := by
  refine enterW (by decide) (Nat.le_of_ble_eq_true rfl) ?_
  intro p e s m args below meth c ls A hx hb hr hml hown hts hlk hin hsz hAe hP hD hA hE hV hS hl
  have hl : lv_has ls 3 [(0, .ref (am 0)), (1, .int (nI k)), (2, .int 1)] := hl
  refine lv_aload_n hx hb d_M_probe_0 rfl (lv_at hl 0 rfl) ?_
  refine lv_aload_n hx hb d_M_probe_1 rfl (lv_at hl 0 rfl) ?_
  refine lv_iload_n hx hb d_M_probe_2 rfl (lv_at hl 1 rfl) ?_
  refine cRV (As := [.int (nI k)]) (rest := [.ref (am 0)]) (q9 := 0) (ci := 8) K_M_isCell x_989 hx hb hml hown hts hE hV hS (c_M_isCell l D ct st am th bu he S (nI k)) hP rfl hP rfl rfl hl.1 rfl (Nat.le_of_ble_eq_true rfl) d_M_probe_3 (Nat.le_of_ble_eq_true rfl) (Nat.le_of_ble_eq_true rfl) ⟨Nat.le_of_ble_eq_true rfl, Nat.le_of_ble_eq_true rfl⟩ ?_
  refine q_ifne_b (tgt := 13) hx hb d_M_probe_6 (by decide) (fun h_6 => ?_) (fun h_6 => absurd (cell_in hS4 hk hn) h_6)
  refine lv_iload_n hx hb d_M_probe_13 rfl (lv_at hl 2 rfl) ?_
  refine lv_i2l (v := 1) hx hb d_M_probe_14 (by decide) ?_
  refine lv_lconst (v := 0) hx hb d_M_probe_15 (by decide) ?_
  refine lv_lconst (v := 1) hx hb d_M_probe_16 (by decide) ?_
  refine cRS (As := [.long 1, .long 0, .long 1]) (rest := [.ref (am 0)]) K_M_in x_978 hx hb hml hown hts hE hV hS (c_M_in l D ct st 1 0 1) (fun k q h => by simp at h) rfl hl.1 rfl (Nat.le_of_ble_eq_true rfl) d_M_probe_17 (Nat.le_of_ble_eq_true rfl) (Nat.le_of_ble_eq_true rfl) ⟨Nat.le_of_ble_eq_true rfl, Nat.le_of_ble_eq_true rfl⟩ ?_
  refine q_ifeq_b (tgt := 27) hx hb d_M_probe_20 (by decide) (fun h_20 => absurd (w_inN (a := 1) (lo := 0) (hi := 1) (by omega) (by omega) (by omega)) h_20) (fun h_20 => ?_)
  refine lv_iconst (v := 0) hx hb d_M_probe_23 (by decide) ?_
  refine lv_goto (tgt := 28) hx hb d_M_probe_24 (by decide) ?_
  refine q_put (ty := .int) 0 0 (ws1 := [((am 0), .inr (8, [.int 0, .ref (am 1), .ref (am 2), .ref (am 3), .ref (am 4), .ref (am 5), .long bu, .long he, .ref (am 6), .ref (am 7)])), ((am 1), .inl (ct 1, 334, .inr (.inl S)))]) t_M i_M t_M_ok n_M rfl hx hb hts hown hE hP hD hS rfl (by decide) x_936 rfl (by decide +kernel) (rfl) rfl (Nat.le_of_ble_eq_true rfl) rfl d_M_probe_28 (fun H locs hP hD hS => ?_)
  refine lv_aload_n hx hb d_M_probe_31 rfl (lv_at hl 0 rfl) ?_
  refine q_get 0 0 i_M rfl hx hb hts hown hE hP rfl (by decide) x_936 rfl d_M_probe_32 ?_
  refine lv_if_le (tgt := 42) hx hb d_M_probe_35 (by decide) (fun _ => ?_) (fun h => absurd h (by decide))
  refine lv_iload_n hx hb d_M_probe_42 rfl (lv_at hl 2 rfl) ?_
  refine lv_if_ne (tgt := 59) hx hb d_M_probe_43 (by decide) (fun _ => ?_) (fun h => absurd h (by decide))
  refine lv_aload_n hx hb d_M_probe_59 rfl (lv_at hl 0 rfl) ?_
  refine q_get 0 1 i_M rfl hx hb hts hown hE hP rfl (by decide) x_937 rfl d_M_probe_60 ?_
  refine lv_sipush (v := 178) hx hb d_M_probe_63 (by decide) ?_
  refine lv_iload_n hx hb d_M_probe_66 rfl (lv_at hl 1 rfl) ?_
  refine q_iadd (v := nI (178 + k)) hx hb d_M_probe_67 (nI_add 178 k) ?_
  refine q_lald (k := 178 + k) 1 hx hb hE hP rfl rfl (by omega) (by decide) d_M_probe_68 ?_
  refine cRS (As := [.long (S (178 + k))]) (rest := []) K_M_greatest x_1089 hx hb hml hown hts hE hV hS (c_M_greatest l D ct st (S (178 + k))) (fun k q h => by simp at h) rfl hl.1 rfl (Nat.le_of_ble_eq_true rfl) d_M_probe_69 (Nat.le_of_ble_eq_true rfl) (Nat.le_of_ble_eq_true rfl) ⟨Nat.le_of_ble_eq_true rfl, Nat.le_of_ble_eq_true rfl⟩ ?_
  exact rW_i hx hb hr hlk hAe hS hP hD (Nat.le_of_ble_eq_true rfl) (Nat.le_of_ble_eq_true rfl) d_M_probe_72 ⟨rfl, rfl, trivial⟩
set_option maxHeartbeats 4000000 in
set_option maxRecDepth 100000 in
theorem c_M_came_1 (l : Launch) (D : va_G) (ct : Nat → ClassId) (st : Nat → Nat) (am : Nat → Nat) (th : Int32) (bu : Int64) (he : Int64) (S : Nat → Int64) (sz : Nat) : Met l y_M_came (wsy y_M_came b_M_came 2 (some .long)) (rmW 1 0 0 25) (PcW D ct st [.ref (am 0), .int 1] [((am 0), .inr (8, [.int th, .ref (am 1), .ref (am 2), .ref (am 3), .ref (am 4), .ref (am 5), .long bu, .long he, .ref (am 6), .ref (am 7)])), ((am 1), .inl (ct 1, 334, .inr (.inl S)))] sz) (QcW D [((am 0), .inr (8, [.int th, .ref (am 1), .ref (am 2), .ref (am 3), .ref (am 4), .ref (am 5), .long bu, .long he, .ref (am 6), .ref (am 7)])), ((am 1), .inl (ct 1, 334, .inr (.inl S)))] sz (fun v W1 => v = some (.long (S 137)) ∧ W1 = [((am 0), .inr (8, [.int 0, .ref (am 1), .ref (am 2), .ref (am 3), .ref (am 4), .ref (am 5), .long bu, .long he, .ref (am 6), .ref (am 7)])), ((am 1), .inl (ct 1, 334, .inr (.inl S)))] ∧ (True))) 0 0 (va_A [((am 0), .inr (8, [.int th, .ref (am 1), .ref (am 2), .ref (am 3), .ref (am 4), .ref (am 5), .long bu, .long he, .ref (am 6), .ref (am 7)])), ((am 1), .inl (ct 1, 334, .inr (.inl S)))] sz) := by
  refine enterW (by decide) (Nat.le_of_ble_eq_true rfl) ?_
  intro p e s m args below meth c ls A hx hb hr hml hown hts hlk hin hsz hAe hP hD hA hE hV hS hl
  have hl : lv_has ls 2 [(0, .ref (am 0)), (1, .int 1)] := hl
  refine lv_aload_n hx hb d_M_came_0 rfl (lv_at hl 0 rfl) ?_
  refine lv_iload_n hx hb d_M_came_1 rfl (lv_at hl 1 rfl) ?_
  refine lv_i2l (v := 1) hx hb d_M_came_2 (by decide) ?_
  refine lv_lconst (v := 0) hx hb d_M_came_3 (by decide) ?_
  refine lv_ldc2 (v := 5) hx hb hown (hts _ (List.mem_cons_of_mem _ x_1043)) d_M_came_4 ?_
  refine cRS (As := [.long 1, .long 0, .long 5]) (rest := [.ref (am 0)]) K_M_in x_978 hx hb hml hown hts hE hV hS (c_M_in l D ct st 1 0 5) (fun k q h => by simp at h) rfl hl.1 rfl (Nat.le_of_ble_eq_true rfl) d_M_came_7 (Nat.le_of_ble_eq_true rfl) (Nat.le_of_ble_eq_true rfl) ⟨Nat.le_of_ble_eq_true rfl, Nat.le_of_ble_eq_true rfl⟩ ?_
  refine q_ifeq_b (tgt := 17) hx hb d_M_came_10 (by decide) (fun h_10 => absurd (w_inN (a := 1) (lo := 0) (hi := 5) (by omega) (by omega) (by omega)) h_10) (fun h_10 => ?_)
  refine lv_iconst (v := 0) hx hb d_M_came_13 (by decide) ?_
  refine lv_goto (tgt := 18) hx hb d_M_came_14 (by decide) ?_
  refine q_put (ty := .int) 0 0 (ws1 := [((am 0), .inr (8, [.int 0, .ref (am 1), .ref (am 2), .ref (am 3), .ref (am 4), .ref (am 5), .long bu, .long he, .ref (am 6), .ref (am 7)])), ((am 1), .inl (ct 1, 334, .inr (.inl S)))]) t_M i_M t_M_ok n_M rfl hx hb hts hown hE hP hD hS rfl (by decide) x_936 rfl (by decide +kernel) (rfl) rfl (Nat.le_of_ble_eq_true rfl) rfl d_M_came_18 (fun H locs hP hD hS => ?_)
  refine lv_aload_n hx hb d_M_came_21 rfl (lv_at hl 0 rfl) ?_
  refine q_get 0 0 i_M rfl hx hb hts hown hE hP rfl (by decide) x_936 rfl d_M_came_22 ?_
  refine lv_if_le (tgt := 32) hx hb d_M_came_25 (by decide) (fun _ => ?_) (fun h => absurd h (by decide))
  refine lv_aload_n hx hb d_M_came_32 rfl (lv_at hl 0 rfl) ?_
  refine q_get 0 1 i_M rfl hx hb hts hown hE hP rfl (by decide) x_937 rfl d_M_came_33 ?_
  refine lv_sipush (v := 136) hx hb d_M_came_36 (by decide) ?_
  refine lv_iload_n hx hb d_M_came_39 rfl (lv_at hl 1 rfl) ?_
  refine q_iadd (v := 137) hx hb d_M_came_40 (by decide) ?_
  refine q_lald (k := 137) 1 hx hb hE hP rfl rfl (by omega) (by decide) d_M_came_41 ?_
  exact rW_l hx hb hr hlk hAe hS hP hD (Nat.le_of_ble_eq_true rfl) (Nat.le_of_ble_eq_true rfl) d_M_came_42 ⟨rfl, rfl, trivial⟩
set_option maxHeartbeats 4000000 in
set_option maxRecDepth 100000 in
theorem c_M_tube_2 (l : Launch) (D : va_G) (ct : Nat → ClassId) (st : Nat → Nat) (am : Nat → Nat) (th : Int32) (bu : Int64) (he : Int64) (S : Nat → Int64) (n : Nat) (k : Nat) (hS4 : S 4 = lN n) (hn : n ≤ 32) (hk : k < n) (sz : Nat) : Met l y_M_tube (wsy y_M_tube b_M_tube 5 (some .int)) (rmW 2 0 0 46) (PcW D ct st [.ref (am 0), .int (nI k), .int 2] [((am 0), .inr (8, [.int th, .ref (am 1), .ref (am 2), .ref (am 3), .ref (am 4), .ref (am 5), .long bu, .long he, .ref (am 6), .ref (am 7)])), ((am 1), .inl (ct 1, 334, .inr (.inl S)))] sz) (QcW D [((am 0), .inr (8, [.int th, .ref (am 1), .ref (am 2), .ref (am 3), .ref (am 4), .ref (am 5), .long bu, .long he, .ref (am 6), .ref (am 7)])), ((am 1), .inl (ct 1, 334, .inr (.inl S)))] sz (fun v W1 => v = some (.int ((S (72 + k)).toInt32)) ∧ W1 = [((am 0), .inr (8, [.int 0, .ref (am 1), .ref (am 2), .ref (am 3), .ref (am 4), .ref (am 5), .long bu, .long he, .ref (am 6), .ref (am 7)])), ((am 1), .inl (ct 1, 334, .inr (.inl S)))] ∧ (True))) 0 0 (va_A [((am 0), .inr (8, [.int th, .ref (am 1), .ref (am 2), .ref (am 3), .ref (am 4), .ref (am 5), .long bu, .long he, .ref (am 6), .ref (am 7)])), ((am 1), .inl (ct 1, 334, .inr (.inl S)))] sz) := by
  refine enterW (by decide) (Nat.le_of_ble_eq_true rfl) ?_
  intro p e s m args below meth c ls A hx hb hr hml hown hts hlk hin hsz hAe hP hD hA hE hV hS hl
  have hl : lv_has ls 5 [(0, .ref (am 0)), (1, .int (nI k)), (2, .int 2)] := hl
  refine lv_aload_n hx hb d_M_tube_0 rfl (lv_at hl 0 rfl) ?_
  refine lv_aload_n hx hb d_M_tube_1 rfl (lv_at hl 0 rfl) ?_
  refine lv_iload_n hx hb d_M_tube_2 rfl (lv_at hl 1 rfl) ?_
  refine cRV (As := [.int (nI k)]) (rest := [.ref (am 0)]) (q9 := 0) (ci := 8) K_M_isCell x_989 hx hb hml hown hts hE hV hS (c_M_isCell l D ct st am th bu he S (nI k)) hP rfl hP rfl rfl hl.1 rfl (Nat.le_of_ble_eq_true rfl) d_M_tube_3 (Nat.le_of_ble_eq_true rfl) (Nat.le_of_ble_eq_true rfl) ⟨Nat.le_of_ble_eq_true rfl, Nat.le_of_ble_eq_true rfl⟩ ?_
  refine q_ifne_b (tgt := 13) hx hb d_M_tube_6 (by decide) (fun h_6 => ?_) (fun h_6 => absurd (cell_in hS4 hk hn) h_6)
  refine lv_iload_n hx hb d_M_tube_13 rfl (lv_at hl 2 rfl) ?_
  refine lv_i2l (v := 2) hx hb d_M_tube_14 (by decide) ?_
  refine lv_lconst (v := 0) hx hb d_M_tube_15 (by decide) ?_
  refine lv_ldc2 (v := 7) hx hb hown (hts _ (List.mem_cons_of_mem _ x_1042)) d_M_tube_16 ?_
  refine cRS (As := [.long 2, .long 0, .long 7]) (rest := [.ref (am 0)]) K_M_in x_978 hx hb hml hown hts hE hV hS (c_M_in l D ct st 2 0 7) (fun k q h => by simp at h) rfl hl.1 rfl (Nat.le_of_ble_eq_true rfl) d_M_tube_19 (Nat.le_of_ble_eq_true rfl) (Nat.le_of_ble_eq_true rfl) ⟨Nat.le_of_ble_eq_true rfl, Nat.le_of_ble_eq_true rfl⟩ ?_
  refine q_ifeq_b (tgt := 29) hx hb d_M_tube_22 (by decide) (fun h_22 => absurd (w_inN (a := 2) (lo := 0) (hi := 7) (by omega) (by omega) (by omega)) h_22) (fun h_22 => ?_)
  refine lv_iconst (v := 0) hx hb d_M_tube_25 (by decide) ?_
  refine lv_goto (tgt := 30) hx hb d_M_tube_26 (by decide) ?_
  refine q_put (ty := .int) 0 0 (ws1 := [((am 0), .inr (8, [.int 0, .ref (am 1), .ref (am 2), .ref (am 3), .ref (am 4), .ref (am 5), .long bu, .long he, .ref (am 6), .ref (am 7)])), ((am 1), .inl (ct 1, 334, .inr (.inl S)))]) t_M i_M t_M_ok n_M rfl hx hb hts hown hE hP hD hS rfl (by decide) x_936 rfl (by decide +kernel) (rfl) rfl (Nat.le_of_ble_eq_true rfl) rfl d_M_tube_30 (fun H locs hP hD hS => ?_)
  refine lv_aload_n hx hb d_M_tube_33 rfl (lv_at hl 0 rfl) ?_
  refine q_get 0 0 i_M rfl hx hb hts hown hE hP rfl (by decide) x_936 rfl d_M_tube_34 ?_
  refine lv_if_le (tgt := 42) hx hb d_M_tube_37 (by decide) (fun _ => ?_) (fun h => absurd h (by decide))
  refine lv_iload_n hx hb d_M_tube_42 rfl (lv_at hl 2 rfl) ?_
  refine lv_iconst (v := 4) hx hb d_M_tube_43 (by decide) ?_
  refine lv_icmp_ge (tgt := 63) hx hb d_M_tube_44 (by decide) (fun h => absurd h (by decide)) (fun _ => ?_)
  refine lv_aload_n hx hb d_M_tube_47 rfl (lv_at hl 0 rfl) ?_
  refine q_get 0 1 i_M rfl hx hb hts hown hE hP rfl (by decide) x_937 rfl d_M_tube_48 ?_
  refine lv_bipush (v := 8) hx hb d_M_tube_51 (by decide) ?_
  refine lv_bipush (v := 32) hx hb d_M_tube_53 (by decide) ?_
  refine lv_iload_n hx hb d_M_tube_55 rfl (lv_at hl 2 rfl) ?_
  refine q_imul (v := 64) hx hb d_M_tube_56 (by decide) ?_
  refine q_iadd (v := 72) hx hb d_M_tube_57 (by decide) ?_
  refine lv_iload_n hx hb d_M_tube_58 rfl (lv_at hl 1 rfl) ?_
  refine q_iadd (v := nI (72 + k)) hx hb d_M_tube_59 (nI_add 72 k) ?_
  refine q_lald (k := 72 + k) 1 hx hb hE hP rfl rfl (by omega) (by decide) d_M_tube_60 ?_
  refine lv_l2i hx hb d_M_tube_61 rfl ?_
  exact rW_i hx hb hr hlk hAe hS hP hD (Nat.le_of_ble_eq_true rfl) (Nat.le_of_ble_eq_true rfl) d_M_tube_62 ⟨rfl, rfl, trivial⟩
set_option maxHeartbeats 4000000 in
set_option maxRecDepth 100000 in
theorem c_M_anew_2 (l : Launch) (D : va_G) (ct : Nat → ClassId) (st : Nat → Nat) (am : Nat → Nat) (th : Int32) (bu : Int64) (he : Int64) (S : Nat → Int64) (n : Nat) (k : Nat) (hS4 : S 4 = lN n) (hn : n ≤ 32) (hk : k < n) (sz : Nat) : Met l y_M_anew (wsy y_M_anew b_M_anew 3 (some .int)) (rmW 2 0 0 46) (PcW D ct st [.ref (am 0), .int (nI k), .int 2] [((am 0), .inr (8, [.int th, .ref (am 1), .ref (am 2), .ref (am 3), .ref (am 4), .ref (am 5), .long bu, .long he, .ref (am 6), .ref (am 7)])), ((am 1), .inl (ct 1, 334, .inr (.inl S)))] sz) (QcW D [((am 0), .inr (8, [.int th, .ref (am 1), .ref (am 2), .ref (am 3), .ref (am 4), .ref (am 5), .long bu, .long he, .ref (am 6), .ref (am 7)])), ((am 1), .inl (ct 1, 334, .inr (.inl S)))] sz (fun v W1 => v = some (.int ((S (72 + k)).toInt32)) ∧ W1 = [((am 0), .inr (8, [.int 0, .ref (am 1), .ref (am 2), .ref (am 3), .ref (am 4), .ref (am 5), .long bu, .long he, .ref (am 6), .ref (am 7)])), ((am 1), .inl (ct 1, 334, .inr (.inl S)))] ∧ (True))) 0 0 (va_A [((am 0), .inr (8, [.int th, .ref (am 1), .ref (am 2), .ref (am 3), .ref (am 4), .ref (am 5), .long bu, .long he, .ref (am 6), .ref (am 7)])), ((am 1), .inl (ct 1, 334, .inr (.inl S)))] sz) := by
  refine enterW (by decide) (Nat.le_of_ble_eq_true rfl) ?_
  intro p e s m args below meth c ls A hx hb hr hml hown hts hlk hin hsz hAe hP hD hA hE hV hS hl
  have hl : lv_has ls 3 [(0, .ref (am 0)), (1, .int (nI k)), (2, .int 2)] := hl
  refine lv_aload_n hx hb d_M_anew_0 rfl (lv_at hl 0 rfl) ?_
  refine lv_aload_n hx hb d_M_anew_1 rfl (lv_at hl 0 rfl) ?_
  refine lv_iload_n hx hb d_M_anew_2 rfl (lv_at hl 1 rfl) ?_
  refine cRV (As := [.int (nI k)]) (rest := [.ref (am 0)]) (q9 := 0) (ci := 8) K_M_isCell x_989 hx hb hml hown hts hE hV hS (c_M_isCell l D ct st am th bu he S (nI k)) hP rfl hP rfl rfl hl.1 rfl (Nat.le_of_ble_eq_true rfl) d_M_anew_3 (Nat.le_of_ble_eq_true rfl) (Nat.le_of_ble_eq_true rfl) ⟨Nat.le_of_ble_eq_true rfl, Nat.le_of_ble_eq_true rfl⟩ ?_
  refine q_ifne_b (tgt := 13) hx hb d_M_anew_6 (by decide) (fun h_6 => ?_) (fun h_6 => absurd (cell_in hS4 hk hn) h_6)
  refine lv_iload_n hx hb d_M_anew_13 rfl (lv_at hl 2 rfl) ?_
  refine lv_i2l (v := 2) hx hb d_M_anew_14 (by decide) ?_
  refine lv_lconst (v := 0) hx hb d_M_anew_15 (by decide) ?_
  refine lv_ldc2 (v := 3) hx hb hown (hts _ (List.mem_cons_of_mem _ x_1045)) d_M_anew_16 ?_
  refine cRS (As := [.long 2, .long 0, .long 3]) (rest := [.ref (am 0)]) K_M_in x_978 hx hb hml hown hts hE hV hS (c_M_in l D ct st 2 0 3) (fun k q h => by simp at h) rfl hl.1 rfl (Nat.le_of_ble_eq_true rfl) d_M_anew_19 (Nat.le_of_ble_eq_true rfl) (Nat.le_of_ble_eq_true rfl) ⟨Nat.le_of_ble_eq_true rfl, Nat.le_of_ble_eq_true rfl⟩ ?_
  refine q_ifeq_b (tgt := 29) hx hb d_M_anew_22 (by decide) (fun h_22 => absurd (w_inN (a := 2) (lo := 0) (hi := 3) (by omega) (by omega) (by omega)) h_22) (fun h_22 => ?_)
  refine lv_iconst (v := 0) hx hb d_M_anew_25 (by decide) ?_
  refine lv_goto (tgt := 30) hx hb d_M_anew_26 (by decide) ?_
  refine q_put (ty := .int) 0 0 (ws1 := [((am 0), .inr (8, [.int 0, .ref (am 1), .ref (am 2), .ref (am 3), .ref (am 4), .ref (am 5), .long bu, .long he, .ref (am 6), .ref (am 7)])), ((am 1), .inl (ct 1, 334, .inr (.inl S)))]) t_M i_M t_M_ok n_M rfl hx hb hts hown hE hP hD hS rfl (by decide) x_936 rfl (by decide +kernel) (rfl) rfl (Nat.le_of_ble_eq_true rfl) rfl d_M_anew_30 (fun H locs hP hD hS => ?_)
  refine lv_aload_n hx hb d_M_anew_33 rfl (lv_at hl 0 rfl) ?_
  refine q_get 0 0 i_M rfl hx hb hts hown hE hP rfl (by decide) x_936 rfl d_M_anew_34 ?_
  refine lv_if_le (tgt := 44) hx hb d_M_anew_37 (by decide) (fun _ => ?_) (fun h => absurd h (by decide))
  refine lv_aload_n hx hb d_M_anew_44 rfl (lv_at hl 0 rfl) ?_
  refine q_get 0 1 i_M rfl hx hb hts hown hE hP rfl (by decide) x_937 rfl d_M_anew_45 ?_
  refine lv_bipush (v := 8) hx hb d_M_anew_48 (by decide) ?_
  refine lv_bipush (v := 32) hx hb d_M_anew_50 (by decide) ?_
  refine lv_iload_n hx hb d_M_anew_52 rfl (lv_at hl 2 rfl) ?_
  refine q_imul (v := 64) hx hb d_M_anew_53 (by decide) ?_
  refine q_iadd (v := 72) hx hb d_M_anew_54 (by decide) ?_
  refine lv_iload_n hx hb d_M_anew_55 rfl (lv_at hl 1 rfl) ?_
  refine q_iadd (v := nI (72 + k)) hx hb d_M_anew_56 (nI_add 72 k) ?_
  refine q_lald (k := 72 + k) 1 hx hb hE hP rfl rfl (by omega) (by decide) d_M_anew_57 ?_
  refine lv_l2i hx hb d_M_anew_58 rfl ?_
  exact rW_i hx hb hr hlk hAe hS hP hD (Nat.le_of_ble_eq_true rfl) (Nat.le_of_ble_eq_true rfl) d_M_anew_59 ⟨rfl, rfl, trivial⟩
set_option maxHeartbeats 4000000 in
set_option maxRecDepth 100000 in
theorem c_M_came_2 (l : Launch) (D : va_G) (ct : Nat → ClassId) (st : Nat → Nat) (am : Nat → Nat) (th : Int32) (bu : Int64) (he : Int64) (S : Nat → Int64) (sz : Nat) : Met l y_M_came (wsy y_M_came b_M_came 2 (some .long)) (rmW 1 0 0 25) (PcW D ct st [.ref (am 0), .int 2] [((am 0), .inr (8, [.int th, .ref (am 1), .ref (am 2), .ref (am 3), .ref (am 4), .ref (am 5), .long bu, .long he, .ref (am 6), .ref (am 7)])), ((am 1), .inl (ct 1, 334, .inr (.inl S)))] sz) (QcW D [((am 0), .inr (8, [.int th, .ref (am 1), .ref (am 2), .ref (am 3), .ref (am 4), .ref (am 5), .long bu, .long he, .ref (am 6), .ref (am 7)])), ((am 1), .inl (ct 1, 334, .inr (.inl S)))] sz (fun v W1 => v = some (.long (S 138)) ∧ W1 = [((am 0), .inr (8, [.int 0, .ref (am 1), .ref (am 2), .ref (am 3), .ref (am 4), .ref (am 5), .long bu, .long he, .ref (am 6), .ref (am 7)])), ((am 1), .inl (ct 1, 334, .inr (.inl S)))] ∧ (True))) 0 0 (va_A [((am 0), .inr (8, [.int th, .ref (am 1), .ref (am 2), .ref (am 3), .ref (am 4), .ref (am 5), .long bu, .long he, .ref (am 6), .ref (am 7)])), ((am 1), .inl (ct 1, 334, .inr (.inl S)))] sz) := by
  refine enterW (by decide) (Nat.le_of_ble_eq_true rfl) ?_
  intro p e s m args below meth c ls A hx hb hr hml hown hts hlk hin hsz hAe hP hD hA hE hV hS hl
  have hl : lv_has ls 2 [(0, .ref (am 0)), (1, .int 2)] := hl
  refine lv_aload_n hx hb d_M_came_0 rfl (lv_at hl 0 rfl) ?_
  refine lv_iload_n hx hb d_M_came_1 rfl (lv_at hl 1 rfl) ?_
  refine lv_i2l (v := 2) hx hb d_M_came_2 (by decide) ?_
  refine lv_lconst (v := 0) hx hb d_M_came_3 (by decide) ?_
  refine lv_ldc2 (v := 5) hx hb hown (hts _ (List.mem_cons_of_mem _ x_1043)) d_M_came_4 ?_
  refine cRS (As := [.long 2, .long 0, .long 5]) (rest := [.ref (am 0)]) K_M_in x_978 hx hb hml hown hts hE hV hS (c_M_in l D ct st 2 0 5) (fun k q h => by simp at h) rfl hl.1 rfl (Nat.le_of_ble_eq_true rfl) d_M_came_7 (Nat.le_of_ble_eq_true rfl) (Nat.le_of_ble_eq_true rfl) ⟨Nat.le_of_ble_eq_true rfl, Nat.le_of_ble_eq_true rfl⟩ ?_
  refine q_ifeq_b (tgt := 17) hx hb d_M_came_10 (by decide) (fun h_10 => absurd (w_inN (a := 2) (lo := 0) (hi := 5) (by omega) (by omega) (by omega)) h_10) (fun h_10 => ?_)
  refine lv_iconst (v := 0) hx hb d_M_came_13 (by decide) ?_
  refine lv_goto (tgt := 18) hx hb d_M_came_14 (by decide) ?_
  refine q_put (ty := .int) 0 0 (ws1 := [((am 0), .inr (8, [.int 0, .ref (am 1), .ref (am 2), .ref (am 3), .ref (am 4), .ref (am 5), .long bu, .long he, .ref (am 6), .ref (am 7)])), ((am 1), .inl (ct 1, 334, .inr (.inl S)))]) t_M i_M t_M_ok n_M rfl hx hb hts hown hE hP hD hS rfl (by decide) x_936 rfl (by decide +kernel) (rfl) rfl (Nat.le_of_ble_eq_true rfl) rfl d_M_came_18 (fun H locs hP hD hS => ?_)
  refine lv_aload_n hx hb d_M_came_21 rfl (lv_at hl 0 rfl) ?_
  refine q_get 0 0 i_M rfl hx hb hts hown hE hP rfl (by decide) x_936 rfl d_M_came_22 ?_
  refine lv_if_le (tgt := 32) hx hb d_M_came_25 (by decide) (fun _ => ?_) (fun h => absurd h (by decide))
  refine lv_aload_n hx hb d_M_came_32 rfl (lv_at hl 0 rfl) ?_
  refine q_get 0 1 i_M rfl hx hb hts hown hE hP rfl (by decide) x_937 rfl d_M_came_33 ?_
  refine lv_sipush (v := 136) hx hb d_M_came_36 (by decide) ?_
  refine lv_iload_n hx hb d_M_came_39 rfl (lv_at hl 1 rfl) ?_
  refine q_iadd (v := 138) hx hb d_M_came_40 (by decide) ?_
  refine q_lald (k := 138) 1 hx hb hE hP rfl rfl (by omega) (by decide) d_M_came_41 ?_
  exact rW_l hx hb hr hlk hAe hS hP hD (Nat.le_of_ble_eq_true rfl) (Nat.le_of_ble_eq_true rfl) d_M_came_42 ⟨rfl, rfl, trivial⟩
set_option maxHeartbeats 4000000 in
set_option maxRecDepth 100000 in
theorem c_M_tube_3 (l : Launch) (D : va_G) (ct : Nat → ClassId) (st : Nat → Nat) (am : Nat → Nat) (th : Int32) (bu : Int64) (he : Int64) (S : Nat → Int64) (n : Nat) (k : Nat) (hS4 : S 4 = lN n) (hn : n ≤ 32) (hk : k < n) (sz : Nat) : Met l y_M_tube (wsy y_M_tube b_M_tube 5 (some .int)) (rmW 2 0 0 46) (PcW D ct st [.ref (am 0), .int (nI k), .int 3] [((am 0), .inr (8, [.int th, .ref (am 1), .ref (am 2), .ref (am 3), .ref (am 4), .ref (am 5), .long bu, .long he, .ref (am 6), .ref (am 7)])), ((am 1), .inl (ct 1, 334, .inr (.inl S)))] sz) (QcW D [((am 0), .inr (8, [.int th, .ref (am 1), .ref (am 2), .ref (am 3), .ref (am 4), .ref (am 5), .long bu, .long he, .ref (am 6), .ref (am 7)])), ((am 1), .inl (ct 1, 334, .inr (.inl S)))] sz (fun v W1 => v = some (.int ((S (104 + k)).toInt32)) ∧ W1 = [((am 0), .inr (8, [.int 0, .ref (am 1), .ref (am 2), .ref (am 3), .ref (am 4), .ref (am 5), .long bu, .long he, .ref (am 6), .ref (am 7)])), ((am 1), .inl (ct 1, 334, .inr (.inl S)))] ∧ (True))) 0 0 (va_A [((am 0), .inr (8, [.int th, .ref (am 1), .ref (am 2), .ref (am 3), .ref (am 4), .ref (am 5), .long bu, .long he, .ref (am 6), .ref (am 7)])), ((am 1), .inl (ct 1, 334, .inr (.inl S)))] sz) := by
  refine enterW (by decide) (Nat.le_of_ble_eq_true rfl) ?_
  intro p e s m args below meth c ls A hx hb hr hml hown hts hlk hin hsz hAe hP hD hA hE hV hS hl
  have hl : lv_has ls 5 [(0, .ref (am 0)), (1, .int (nI k)), (2, .int 3)] := hl
  refine lv_aload_n hx hb d_M_tube_0 rfl (lv_at hl 0 rfl) ?_
  refine lv_aload_n hx hb d_M_tube_1 rfl (lv_at hl 0 rfl) ?_
  refine lv_iload_n hx hb d_M_tube_2 rfl (lv_at hl 1 rfl) ?_
  refine cRV (As := [.int (nI k)]) (rest := [.ref (am 0)]) (q9 := 0) (ci := 8) K_M_isCell x_989 hx hb hml hown hts hE hV hS (c_M_isCell l D ct st am th bu he S (nI k)) hP rfl hP rfl rfl hl.1 rfl (Nat.le_of_ble_eq_true rfl) d_M_tube_3 (Nat.le_of_ble_eq_true rfl) (Nat.le_of_ble_eq_true rfl) ⟨Nat.le_of_ble_eq_true rfl, Nat.le_of_ble_eq_true rfl⟩ ?_
  refine q_ifne_b (tgt := 13) hx hb d_M_tube_6 (by decide) (fun h_6 => ?_) (fun h_6 => absurd (cell_in hS4 hk hn) h_6)
  refine lv_iload_n hx hb d_M_tube_13 rfl (lv_at hl 2 rfl) ?_
  refine lv_i2l (v := 3) hx hb d_M_tube_14 (by decide) ?_
  refine lv_lconst (v := 0) hx hb d_M_tube_15 (by decide) ?_
  refine lv_ldc2 (v := 7) hx hb hown (hts _ (List.mem_cons_of_mem _ x_1042)) d_M_tube_16 ?_
  refine cRS (As := [.long 3, .long 0, .long 7]) (rest := [.ref (am 0)]) K_M_in x_978 hx hb hml hown hts hE hV hS (c_M_in l D ct st 3 0 7) (fun k q h => by simp at h) rfl hl.1 rfl (Nat.le_of_ble_eq_true rfl) d_M_tube_19 (Nat.le_of_ble_eq_true rfl) (Nat.le_of_ble_eq_true rfl) ⟨Nat.le_of_ble_eq_true rfl, Nat.le_of_ble_eq_true rfl⟩ ?_
  refine q_ifeq_b (tgt := 29) hx hb d_M_tube_22 (by decide) (fun h_22 => absurd (w_inN (a := 3) (lo := 0) (hi := 7) (by omega) (by omega) (by omega)) h_22) (fun h_22 => ?_)
  refine lv_iconst (v := 0) hx hb d_M_tube_25 (by decide) ?_
  refine lv_goto (tgt := 30) hx hb d_M_tube_26 (by decide) ?_
  refine q_put (ty := .int) 0 0 (ws1 := [((am 0), .inr (8, [.int 0, .ref (am 1), .ref (am 2), .ref (am 3), .ref (am 4), .ref (am 5), .long bu, .long he, .ref (am 6), .ref (am 7)])), ((am 1), .inl (ct 1, 334, .inr (.inl S)))]) t_M i_M t_M_ok n_M rfl hx hb hts hown hE hP hD hS rfl (by decide) x_936 rfl (by decide +kernel) (rfl) rfl (Nat.le_of_ble_eq_true rfl) rfl d_M_tube_30 (fun H locs hP hD hS => ?_)
  refine lv_aload_n hx hb d_M_tube_33 rfl (lv_at hl 0 rfl) ?_
  refine q_get 0 0 i_M rfl hx hb hts hown hE hP rfl (by decide) x_936 rfl d_M_tube_34 ?_
  refine lv_if_le (tgt := 42) hx hb d_M_tube_37 (by decide) (fun _ => ?_) (fun h => absurd h (by decide))
  refine lv_iload_n hx hb d_M_tube_42 rfl (lv_at hl 2 rfl) ?_
  refine lv_iconst (v := 4) hx hb d_M_tube_43 (by decide) ?_
  refine lv_icmp_ge (tgt := 63) hx hb d_M_tube_44 (by decide) (fun h => absurd h (by decide)) (fun _ => ?_)
  refine lv_aload_n hx hb d_M_tube_47 rfl (lv_at hl 0 rfl) ?_
  refine q_get 0 1 i_M rfl hx hb hts hown hE hP rfl (by decide) x_937 rfl d_M_tube_48 ?_
  refine lv_bipush (v := 8) hx hb d_M_tube_51 (by decide) ?_
  refine lv_bipush (v := 32) hx hb d_M_tube_53 (by decide) ?_
  refine lv_iload_n hx hb d_M_tube_55 rfl (lv_at hl 2 rfl) ?_
  refine q_imul (v := 96) hx hb d_M_tube_56 (by decide) ?_
  refine q_iadd (v := 104) hx hb d_M_tube_57 (by decide) ?_
  refine lv_iload_n hx hb d_M_tube_58 rfl (lv_at hl 1 rfl) ?_
  refine q_iadd (v := nI (104 + k)) hx hb d_M_tube_59 (nI_add 104 k) ?_
  refine q_lald (k := 104 + k) 1 hx hb hE hP rfl rfl (by omega) (by decide) d_M_tube_60 ?_
  refine lv_l2i hx hb d_M_tube_61 rfl ?_
  exact rW_i hx hb hr hlk hAe hS hP hD (Nat.le_of_ble_eq_true rfl) (Nat.le_of_ble_eq_true rfl) d_M_tube_62 ⟨rfl, rfl, trivial⟩
set_option maxHeartbeats 4000000 in
set_option maxRecDepth 100000 in
theorem c_M_anew_3 (l : Launch) (D : va_G) (ct : Nat → ClassId) (st : Nat → Nat) (am : Nat → Nat) (th : Int32) (bu : Int64) (he : Int64) (S : Nat → Int64) (n : Nat) (k : Nat) (hS4 : S 4 = lN n) (hn : n ≤ 32) (hk : k < n) (sz : Nat) : Met l y_M_anew (wsy y_M_anew b_M_anew 3 (some .int)) (rmW 2 0 0 46) (PcW D ct st [.ref (am 0), .int (nI k), .int 3] [((am 0), .inr (8, [.int th, .ref (am 1), .ref (am 2), .ref (am 3), .ref (am 4), .ref (am 5), .long bu, .long he, .ref (am 6), .ref (am 7)])), ((am 1), .inl (ct 1, 334, .inr (.inl S)))] sz) (QcW D [((am 0), .inr (8, [.int th, .ref (am 1), .ref (am 2), .ref (am 3), .ref (am 4), .ref (am 5), .long bu, .long he, .ref (am 6), .ref (am 7)])), ((am 1), .inl (ct 1, 334, .inr (.inl S)))] sz (fun v W1 => v = some (.int ((S (104 + k)).toInt32)) ∧ W1 = [((am 0), .inr (8, [.int 0, .ref (am 1), .ref (am 2), .ref (am 3), .ref (am 4), .ref (am 5), .long bu, .long he, .ref (am 6), .ref (am 7)])), ((am 1), .inl (ct 1, 334, .inr (.inl S)))] ∧ (True))) 0 0 (va_A [((am 0), .inr (8, [.int th, .ref (am 1), .ref (am 2), .ref (am 3), .ref (am 4), .ref (am 5), .long bu, .long he, .ref (am 6), .ref (am 7)])), ((am 1), .inl (ct 1, 334, .inr (.inl S)))] sz) := by
  refine enterW (by decide) (Nat.le_of_ble_eq_true rfl) ?_
  intro p e s m args below meth c ls A hx hb hr hml hown hts hlk hin hsz hAe hP hD hA hE hV hS hl
  have hl : lv_has ls 3 [(0, .ref (am 0)), (1, .int (nI k)), (2, .int 3)] := hl
  refine lv_aload_n hx hb d_M_anew_0 rfl (lv_at hl 0 rfl) ?_
  refine lv_aload_n hx hb d_M_anew_1 rfl (lv_at hl 0 rfl) ?_
  refine lv_iload_n hx hb d_M_anew_2 rfl (lv_at hl 1 rfl) ?_
  refine cRV (As := [.int (nI k)]) (rest := [.ref (am 0)]) (q9 := 0) (ci := 8) K_M_isCell x_989 hx hb hml hown hts hE hV hS (c_M_isCell l D ct st am th bu he S (nI k)) hP rfl hP rfl rfl hl.1 rfl (Nat.le_of_ble_eq_true rfl) d_M_anew_3 (Nat.le_of_ble_eq_true rfl) (Nat.le_of_ble_eq_true rfl) ⟨Nat.le_of_ble_eq_true rfl, Nat.le_of_ble_eq_true rfl⟩ ?_
  refine q_ifne_b (tgt := 13) hx hb d_M_anew_6 (by decide) (fun h_6 => ?_) (fun h_6 => absurd (cell_in hS4 hk hn) h_6)
  refine lv_iload_n hx hb d_M_anew_13 rfl (lv_at hl 2 rfl) ?_
  refine lv_i2l (v := 3) hx hb d_M_anew_14 (by decide) ?_
  refine lv_lconst (v := 0) hx hb d_M_anew_15 (by decide) ?_
  refine lv_ldc2 (v := 3) hx hb hown (hts _ (List.mem_cons_of_mem _ x_1045)) d_M_anew_16 ?_
  refine cRS (As := [.long 3, .long 0, .long 3]) (rest := [.ref (am 0)]) K_M_in x_978 hx hb hml hown hts hE hV hS (c_M_in l D ct st 3 0 3) (fun k q h => by simp at h) rfl hl.1 rfl (Nat.le_of_ble_eq_true rfl) d_M_anew_19 (Nat.le_of_ble_eq_true rfl) (Nat.le_of_ble_eq_true rfl) ⟨Nat.le_of_ble_eq_true rfl, Nat.le_of_ble_eq_true rfl⟩ ?_
  refine q_ifeq_b (tgt := 29) hx hb d_M_anew_22 (by decide) (fun h_22 => absurd (w_inN (a := 3) (lo := 0) (hi := 3) (by omega) (by omega) (by omega)) h_22) (fun h_22 => ?_)
  refine lv_iconst (v := 0) hx hb d_M_anew_25 (by decide) ?_
  refine lv_goto (tgt := 30) hx hb d_M_anew_26 (by decide) ?_
  refine q_put (ty := .int) 0 0 (ws1 := [((am 0), .inr (8, [.int 0, .ref (am 1), .ref (am 2), .ref (am 3), .ref (am 4), .ref (am 5), .long bu, .long he, .ref (am 6), .ref (am 7)])), ((am 1), .inl (ct 1, 334, .inr (.inl S)))]) t_M i_M t_M_ok n_M rfl hx hb hts hown hE hP hD hS rfl (by decide) x_936 rfl (by decide +kernel) (rfl) rfl (Nat.le_of_ble_eq_true rfl) rfl d_M_anew_30 (fun H locs hP hD hS => ?_)
  refine lv_aload_n hx hb d_M_anew_33 rfl (lv_at hl 0 rfl) ?_
  refine q_get 0 0 i_M rfl hx hb hts hown hE hP rfl (by decide) x_936 rfl d_M_anew_34 ?_
  refine lv_if_le (tgt := 44) hx hb d_M_anew_37 (by decide) (fun _ => ?_) (fun h => absurd h (by decide))
  refine lv_aload_n hx hb d_M_anew_44 rfl (lv_at hl 0 rfl) ?_
  refine q_get 0 1 i_M rfl hx hb hts hown hE hP rfl (by decide) x_937 rfl d_M_anew_45 ?_
  refine lv_bipush (v := 8) hx hb d_M_anew_48 (by decide) ?_
  refine lv_bipush (v := 32) hx hb d_M_anew_50 (by decide) ?_
  refine lv_iload_n hx hb d_M_anew_52 rfl (lv_at hl 2 rfl) ?_
  refine q_imul (v := 96) hx hb d_M_anew_53 (by decide) ?_
  refine q_iadd (v := 104) hx hb d_M_anew_54 (by decide) ?_
  refine lv_iload_n hx hb d_M_anew_55 rfl (lv_at hl 1 rfl) ?_
  refine q_iadd (v := nI (104 + k)) hx hb d_M_anew_56 (nI_add 104 k) ?_
  refine q_lald (k := 104 + k) 1 hx hb hE hP rfl rfl (by omega) (by decide) d_M_anew_57 ?_
  refine lv_l2i hx hb d_M_anew_58 rfl ?_
  exact rW_i hx hb hr hlk hAe hS hP hD (Nat.le_of_ble_eq_true rfl) (Nat.le_of_ble_eq_true rfl) d_M_anew_59 ⟨rfl, rfl, trivial⟩
set_option maxHeartbeats 4000000 in
set_option maxRecDepth 100000 in
theorem c_M_came_3 (l : Launch) (D : va_G) (ct : Nat → ClassId) (st : Nat → Nat) (am : Nat → Nat) (th : Int32) (bu : Int64) (he : Int64) (S : Nat → Int64) (sz : Nat) : Met l y_M_came (wsy y_M_came b_M_came 2 (some .long)) (rmW 1 0 0 25) (PcW D ct st [.ref (am 0), .int 3] [((am 0), .inr (8, [.int th, .ref (am 1), .ref (am 2), .ref (am 3), .ref (am 4), .ref (am 5), .long bu, .long he, .ref (am 6), .ref (am 7)])), ((am 1), .inl (ct 1, 334, .inr (.inl S)))] sz) (QcW D [((am 0), .inr (8, [.int th, .ref (am 1), .ref (am 2), .ref (am 3), .ref (am 4), .ref (am 5), .long bu, .long he, .ref (am 6), .ref (am 7)])), ((am 1), .inl (ct 1, 334, .inr (.inl S)))] sz (fun v W1 => v = some (.long (S 139)) ∧ W1 = [((am 0), .inr (8, [.int 0, .ref (am 1), .ref (am 2), .ref (am 3), .ref (am 4), .ref (am 5), .long bu, .long he, .ref (am 6), .ref (am 7)])), ((am 1), .inl (ct 1, 334, .inr (.inl S)))] ∧ (True))) 0 0 (va_A [((am 0), .inr (8, [.int th, .ref (am 1), .ref (am 2), .ref (am 3), .ref (am 4), .ref (am 5), .long bu, .long he, .ref (am 6), .ref (am 7)])), ((am 1), .inl (ct 1, 334, .inr (.inl S)))] sz) := by
  refine enterW (by decide) (Nat.le_of_ble_eq_true rfl) ?_
  intro p e s m args below meth c ls A hx hb hr hml hown hts hlk hin hsz hAe hP hD hA hE hV hS hl
  have hl : lv_has ls 2 [(0, .ref (am 0)), (1, .int 3)] := hl
  refine lv_aload_n hx hb d_M_came_0 rfl (lv_at hl 0 rfl) ?_
  refine lv_iload_n hx hb d_M_came_1 rfl (lv_at hl 1 rfl) ?_
  refine lv_i2l (v := 3) hx hb d_M_came_2 (by decide) ?_
  refine lv_lconst (v := 0) hx hb d_M_came_3 (by decide) ?_
  refine lv_ldc2 (v := 5) hx hb hown (hts _ (List.mem_cons_of_mem _ x_1043)) d_M_came_4 ?_
  refine cRS (As := [.long 3, .long 0, .long 5]) (rest := [.ref (am 0)]) K_M_in x_978 hx hb hml hown hts hE hV hS (c_M_in l D ct st 3 0 5) (fun k q h => by simp at h) rfl hl.1 rfl (Nat.le_of_ble_eq_true rfl) d_M_came_7 (Nat.le_of_ble_eq_true rfl) (Nat.le_of_ble_eq_true rfl) ⟨Nat.le_of_ble_eq_true rfl, Nat.le_of_ble_eq_true rfl⟩ ?_
  refine q_ifeq_b (tgt := 17) hx hb d_M_came_10 (by decide) (fun h_10 => absurd (w_inN (a := 3) (lo := 0) (hi := 5) (by omega) (by omega) (by omega)) h_10) (fun h_10 => ?_)
  refine lv_iconst (v := 0) hx hb d_M_came_13 (by decide) ?_
  refine lv_goto (tgt := 18) hx hb d_M_came_14 (by decide) ?_
  refine q_put (ty := .int) 0 0 (ws1 := [((am 0), .inr (8, [.int 0, .ref (am 1), .ref (am 2), .ref (am 3), .ref (am 4), .ref (am 5), .long bu, .long he, .ref (am 6), .ref (am 7)])), ((am 1), .inl (ct 1, 334, .inr (.inl S)))]) t_M i_M t_M_ok n_M rfl hx hb hts hown hE hP hD hS rfl (by decide) x_936 rfl (by decide +kernel) (rfl) rfl (Nat.le_of_ble_eq_true rfl) rfl d_M_came_18 (fun H locs hP hD hS => ?_)
  refine lv_aload_n hx hb d_M_came_21 rfl (lv_at hl 0 rfl) ?_
  refine q_get 0 0 i_M rfl hx hb hts hown hE hP rfl (by decide) x_936 rfl d_M_came_22 ?_
  refine lv_if_le (tgt := 32) hx hb d_M_came_25 (by decide) (fun _ => ?_) (fun h => absurd h (by decide))
  refine lv_aload_n hx hb d_M_came_32 rfl (lv_at hl 0 rfl) ?_
  refine q_get 0 1 i_M rfl hx hb hts hown hE hP rfl (by decide) x_937 rfl d_M_came_33 ?_
  refine lv_sipush (v := 136) hx hb d_M_came_36 (by decide) ?_
  refine lv_iload_n hx hb d_M_came_39 rfl (lv_at hl 1 rfl) ?_
  refine q_iadd (v := 139) hx hb d_M_came_40 (by decide) ?_
  refine q_lald (k := 139) 1 hx hb hE hP rfl rfl (by omega) (by decide) d_M_came_41 ?_
  exact rW_l hx hb hr hlk hAe hS hP hD (Nat.le_of_ble_eq_true rfl) (Nat.le_of_ble_eq_true rfl) d_M_came_42 ⟨rfl, rfl, trivial⟩
set_option maxHeartbeats 4000000 in
set_option maxRecDepth 100000 in
theorem c_M_tube_4 (l : Launch) (D : va_G) (ct : Nat → ClassId) (st : Nat → Nat) (am : Nat → Nat) (th : Int32) (bu : Int64) (he : Int64) (S : Nat → Int64) (n : Nat) (k : Nat) (g : Nat) (hS4 : S 4 = lN n) (hn : n ≤ 32) (hk : k < n) (hg : g < 3) (hS0 : S 0 = lN g) (hok : OkC (sM S) (sP S) (sE S) (sF S) k) (sz : Nat) : Met l y_M_tube (wsy y_M_tube b_M_tube 5 (some .int)) (rmW 4 0 0 99) (PcW D ct st [.ref (am 0), .int (nI k), .int 4] [((am 0), .inr (8, [.int th, .ref (am 1), .ref (am 2), .ref (am 3), .ref (am 4), .ref (am 5), .long bu, .long he, .ref (am 6), .ref (am 7)])), ((am 1), .inl (ct 1, 334, .inr (.inl S)))] sz) (QcW D [((am 0), .inr (8, [.int th, .ref (am 1), .ref (am 2), .ref (am 3), .ref (am 4), .ref (am 5), .long bu, .long he, .ref (am 6), .ref (am 7)])), ((am 1), .inl (ct 1, 334, .inr (.inl S)))] sz (fun v W1 => v = some (.int (w_gr (w_pr g (sM S) (sP S) (sE S) k))) ∧ W1 = [((am 0), .inr (8, [.int 0, .ref (am 1), .ref (am 2), .ref (am 3), .ref (am 4), .ref (am 5), .long bu, .long he, .ref (am 6), .ref (am 7)])), ((am 1), .inl (ct 1, 334, .inr (.inl S)))] ∧ (True))) 0 0 (va_A [((am 0), .inr (8, [.int th, .ref (am 1), .ref (am 2), .ref (am 3), .ref (am 4), .ref (am 5), .long bu, .long he, .ref (am 6), .ref (am 7)])), ((am 1), .inl (ct 1, 334, .inr (.inl S)))] sz) := by
  refine enterW (by decide) (Nat.le_of_ble_eq_true rfl) ?_
  intro p e s m args below meth c ls A hx hb hr hml hown hts hlk hin hsz hAe hP hD hA hE hV hS hl
  have hl : lv_has ls 5 [(0, .ref (am 0)), (1, .int (nI k)), (2, .int 4)] := hl
  refine lv_aload_n hx hb d_M_tube_0 rfl (lv_at hl 0 rfl) ?_
  refine lv_aload_n hx hb d_M_tube_1 rfl (lv_at hl 0 rfl) ?_
  refine lv_iload_n hx hb d_M_tube_2 rfl (lv_at hl 1 rfl) ?_
  refine cRV (As := [.int (nI k)]) (rest := [.ref (am 0)]) (q9 := 0) (ci := 8) K_M_isCell x_989 hx hb hml hown hts hE hV hS (c_M_isCell l D ct st am th bu he S (nI k)) hP rfl hP rfl rfl hl.1 rfl (Nat.le_of_ble_eq_true rfl) d_M_tube_3 (Nat.le_of_ble_eq_true rfl) (Nat.le_of_ble_eq_true rfl) ⟨Nat.le_of_ble_eq_true rfl, Nat.le_of_ble_eq_true rfl⟩ ?_
  refine q_ifne_b (tgt := 13) hx hb d_M_tube_6 (by decide) (fun h_6 => ?_) (fun h_6 => absurd (cell_in hS4 hk hn) h_6)
  refine lv_iload_n hx hb d_M_tube_13 rfl (lv_at hl 2 rfl) ?_
  refine lv_i2l (v := 4) hx hb d_M_tube_14 (by decide) ?_
  refine lv_lconst (v := 0) hx hb d_M_tube_15 (by decide) ?_
  refine lv_ldc2 (v := 7) hx hb hown (hts _ (List.mem_cons_of_mem _ x_1042)) d_M_tube_16 ?_
  refine cRS (As := [.long 4, .long 0, .long 7]) (rest := [.ref (am 0)]) K_M_in x_978 hx hb hml hown hts hE hV hS (c_M_in l D ct st 4 0 7) (fun k q h => by simp at h) rfl hl.1 rfl (Nat.le_of_ble_eq_true rfl) d_M_tube_19 (Nat.le_of_ble_eq_true rfl) (Nat.le_of_ble_eq_true rfl) ⟨Nat.le_of_ble_eq_true rfl, Nat.le_of_ble_eq_true rfl⟩ ?_
  refine q_ifeq_b (tgt := 29) hx hb d_M_tube_22 (by decide) (fun h_22 => absurd (w_inN (a := 4) (lo := 0) (hi := 7) (by omega) (by omega) (by omega)) h_22) (fun h_22 => ?_)
  refine lv_iconst (v := 0) hx hb d_M_tube_25 (by decide) ?_
  refine lv_goto (tgt := 30) hx hb d_M_tube_26 (by decide) ?_
  refine q_put (ty := .int) 0 0 (ws1 := [((am 0), .inr (8, [.int 0, .ref (am 1), .ref (am 2), .ref (am 3), .ref (am 4), .ref (am 5), .long bu, .long he, .ref (am 6), .ref (am 7)])), ((am 1), .inl (ct 1, 334, .inr (.inl S)))]) t_M i_M t_M_ok n_M rfl hx hb hts hown hE hP hD hS rfl (by decide) x_936 rfl (by decide +kernel) (rfl) rfl (Nat.le_of_ble_eq_true rfl) rfl d_M_tube_30 (fun H locs hP hD hS => ?_)
  refine lv_aload_n hx hb d_M_tube_33 rfl (lv_at hl 0 rfl) ?_
  refine q_get 0 0 i_M rfl hx hb hts hown hE hP rfl (by decide) x_936 rfl d_M_tube_34 ?_
  refine lv_if_le (tgt := 42) hx hb d_M_tube_37 (by decide) (fun _ => ?_) (fun h => absurd h (by decide))
  refine lv_iload_n hx hb d_M_tube_42 rfl (lv_at hl 2 rfl) ?_
  refine lv_iconst (v := 4) hx hb d_M_tube_43 (by decide) ?_
  refine lv_icmp_ge (tgt := 63) hx hb d_M_tube_44 (by decide) (fun _ => ?_) (fun h => absurd h (by decide))
  refine lv_iload_n hx hb d_M_tube_63 rfl (lv_at hl 2 rfl) ?_
  refine lv_iconst (v := 4) hx hb d_M_tube_64 (by decide) ?_
  refine lv_icmp_ne (tgt := 76) hx hb d_M_tube_65 (by decide) (fun h => absurd h (by decide)) (fun _ => ?_)
  refine lv_aload_n hx hb d_M_tube_68 rfl (lv_at hl 0 rfl) ?_
  refine lv_iload_n hx hb d_M_tube_69 rfl (lv_at hl 1 rfl) ?_
  refine cRV (As := [.int (nI k)]) (rest := []) (q9 := 0) (ci := 8) K_M_pressureOf x_1046 hx hb hml hown hts hE hV hS (c_M_pressureOf l D ct st am 0 bu he S g k (hg) (hS0) (by omega) (hok.1)) hP rfl hP rfl rfl hl.1 rfl (Nat.le_of_ble_eq_true rfl) d_M_tube_70 (Nat.le_of_ble_eq_true rfl) (Nat.le_of_ble_eq_true rfl) ⟨Nat.le_of_ble_eq_true rfl, Nat.le_of_ble_eq_true rfl⟩ ?_
  refine lv_goto (tgt := 124) hx hb d_M_tube_73 (by decide) ?_
  refine lv_lstore_n (lv' := [(3, .long (w_pr g (sM S) (sP S) (sE S) k)), (0, .ref (am 0)), (1, .int (nI k)), (2, .int 4)]) hx hb d_M_tube_124 rfl hl (by decide) rfl (fun ls hl => ?_)
  refine lv_lload_n hx hb d_M_tube_125 rfl (lv_at hl 0 rfl) ?_
  refine cRS (As := [.long (w_pr g (sM S) (sP S) (sE S) k)]) (rest := []) K_M_greatest x_1089 hx hb hml hown hts hE hV hS (c_M_greatest l D ct st (w_pr g (sM S) (sP S) (sE S) k)) (fun k q h => by simp at h) rfl hl.1 rfl (Nat.le_of_ble_eq_true rfl) d_M_tube_126 (Nat.le_of_ble_eq_true rfl) (Nat.le_of_ble_eq_true rfl) ⟨Nat.le_of_ble_eq_true rfl, Nat.le_of_ble_eq_true rfl⟩ ?_
  exact rW_i hx hb hr hlk hAe hS hP hD (Nat.le_of_ble_eq_true rfl) (Nat.le_of_ble_eq_true rfl) d_M_tube_129 ⟨rfl, rfl, trivial⟩
set_option maxHeartbeats 4000000 in
set_option maxRecDepth 100000 in
theorem c_M_came_4 (l : Launch) (D : va_G) (ct : Nat → ClassId) (st : Nat → Nat) (am : Nat → Nat) (th : Int32) (bu : Int64) (he : Int64) (S : Nat → Int64) (sz : Nat) : Met l y_M_came (wsy y_M_came b_M_came 2 (some .long)) (rmW 1 0 0 25) (PcW D ct st [.ref (am 0), .int 4] [((am 0), .inr (8, [.int th, .ref (am 1), .ref (am 2), .ref (am 3), .ref (am 4), .ref (am 5), .long bu, .long he, .ref (am 6), .ref (am 7)])), ((am 1), .inl (ct 1, 334, .inr (.inl S)))] sz) (QcW D [((am 0), .inr (8, [.int th, .ref (am 1), .ref (am 2), .ref (am 3), .ref (am 4), .ref (am 5), .long bu, .long he, .ref (am 6), .ref (am 7)])), ((am 1), .inl (ct 1, 334, .inr (.inl S)))] sz (fun v W1 => v = some (.long (S 140)) ∧ W1 = [((am 0), .inr (8, [.int 0, .ref (am 1), .ref (am 2), .ref (am 3), .ref (am 4), .ref (am 5), .long bu, .long he, .ref (am 6), .ref (am 7)])), ((am 1), .inl (ct 1, 334, .inr (.inl S)))] ∧ (True))) 0 0 (va_A [((am 0), .inr (8, [.int th, .ref (am 1), .ref (am 2), .ref (am 3), .ref (am 4), .ref (am 5), .long bu, .long he, .ref (am 6), .ref (am 7)])), ((am 1), .inl (ct 1, 334, .inr (.inl S)))] sz) := by
  refine enterW (by decide) (Nat.le_of_ble_eq_true rfl) ?_
  intro p e s m args below meth c ls A hx hb hr hml hown hts hlk hin hsz hAe hP hD hA hE hV hS hl
  have hl : lv_has ls 2 [(0, .ref (am 0)), (1, .int 4)] := hl
  refine lv_aload_n hx hb d_M_came_0 rfl (lv_at hl 0 rfl) ?_
  refine lv_iload_n hx hb d_M_came_1 rfl (lv_at hl 1 rfl) ?_
  refine lv_i2l (v := 4) hx hb d_M_came_2 (by decide) ?_
  refine lv_lconst (v := 0) hx hb d_M_came_3 (by decide) ?_
  refine lv_ldc2 (v := 5) hx hb hown (hts _ (List.mem_cons_of_mem _ x_1043)) d_M_came_4 ?_
  refine cRS (As := [.long 4, .long 0, .long 5]) (rest := [.ref (am 0)]) K_M_in x_978 hx hb hml hown hts hE hV hS (c_M_in l D ct st 4 0 5) (fun k q h => by simp at h) rfl hl.1 rfl (Nat.le_of_ble_eq_true rfl) d_M_came_7 (Nat.le_of_ble_eq_true rfl) (Nat.le_of_ble_eq_true rfl) ⟨Nat.le_of_ble_eq_true rfl, Nat.le_of_ble_eq_true rfl⟩ ?_
  refine q_ifeq_b (tgt := 17) hx hb d_M_came_10 (by decide) (fun h_10 => absurd (w_inN (a := 4) (lo := 0) (hi := 5) (by omega) (by omega) (by omega)) h_10) (fun h_10 => ?_)
  refine lv_iconst (v := 0) hx hb d_M_came_13 (by decide) ?_
  refine lv_goto (tgt := 18) hx hb d_M_came_14 (by decide) ?_
  refine q_put (ty := .int) 0 0 (ws1 := [((am 0), .inr (8, [.int 0, .ref (am 1), .ref (am 2), .ref (am 3), .ref (am 4), .ref (am 5), .long bu, .long he, .ref (am 6), .ref (am 7)])), ((am 1), .inl (ct 1, 334, .inr (.inl S)))]) t_M i_M t_M_ok n_M rfl hx hb hts hown hE hP hD hS rfl (by decide) x_936 rfl (by decide +kernel) (rfl) rfl (Nat.le_of_ble_eq_true rfl) rfl d_M_came_18 (fun H locs hP hD hS => ?_)
  refine lv_aload_n hx hb d_M_came_21 rfl (lv_at hl 0 rfl) ?_
  refine q_get 0 0 i_M rfl hx hb hts hown hE hP rfl (by decide) x_936 rfl d_M_came_22 ?_
  refine lv_if_le (tgt := 32) hx hb d_M_came_25 (by decide) (fun _ => ?_) (fun h => absurd h (by decide))
  refine lv_aload_n hx hb d_M_came_32 rfl (lv_at hl 0 rfl) ?_
  refine q_get 0 1 i_M rfl hx hb hts hown hE hP rfl (by decide) x_937 rfl d_M_came_33 ?_
  refine lv_sipush (v := 136) hx hb d_M_came_36 (by decide) ?_
  refine lv_iload_n hx hb d_M_came_39 rfl (lv_at hl 1 rfl) ?_
  refine q_iadd (v := 140) hx hb d_M_came_40 (by decide) ?_
  refine q_lald (k := 140) 1 hx hb hE hP rfl rfl (by omega) (by decide) d_M_came_41 ?_
  exact rW_l hx hb hr hlk hAe hS hP hD (Nat.le_of_ble_eq_true rfl) (Nat.le_of_ble_eq_true rfl) d_M_came_42 ⟨rfl, rfl, trivial⟩
set_option maxHeartbeats 4000000 in
set_option maxRecDepth 100000 in
theorem c_M_tube_5 (l : Launch) (D : va_G) (ct : Nat → ClassId) (st : Nat → Nat) (am : Nat → Nat) (th : Int32) (bu : Int64) (he : Int64) (S : Nat → Int64) (n : Nat) (k : Nat) (g : Nat) (hS4 : S 4 = lN n) (hn : n ≤ 32) (hk : k < n) (hg : g < 3) (hS0 : S 0 = lN g) (hok : OkC (sM S) (sP S) (sE S) (sF S) k) (sz : Nat) : Met l y_M_tube (wsy y_M_tube b_M_tube 5 (some .int)) (rmW 2 0 0 46) (PcW D ct st [.ref (am 0), .int (nI k), .int 5] [((am 0), .inr (8, [.int th, .ref (am 1), .ref (am 2), .ref (am 3), .ref (am 4), .ref (am 5), .long bu, .long he, .ref (am 6), .ref (am 7)])), ((am 1), .inl (ct 1, 334, .inr (.inl S)))] sz) (QcW D [((am 0), .inr (8, [.int th, .ref (am 1), .ref (am 2), .ref (am 3), .ref (am 4), .ref (am 5), .long bu, .long he, .ref (am 6), .ref (am 7)])), ((am 1), .inl (ct 1, 334, .inr (.inl S)))] sz (fun v W1 => v = some (.int (w_gr (w_sp (sM S) (sP S) k))) ∧ W1 = [((am 0), .inr (8, [.int 0, .ref (am 1), .ref (am 2), .ref (am 3), .ref (am 4), .ref (am 5), .long bu, .long he, .ref (am 6), .ref (am 7)])), ((am 1), .inl (ct 1, 334, .inr (.inl S)))] ∧ (True))) 0 0 (va_A [((am 0), .inr (8, [.int th, .ref (am 1), .ref (am 2), .ref (am 3), .ref (am 4), .ref (am 5), .long bu, .long he, .ref (am 6), .ref (am 7)])), ((am 1), .inl (ct 1, 334, .inr (.inl S)))] sz) := by
  refine enterW (by decide) (Nat.le_of_ble_eq_true rfl) ?_
  intro p e s m args below meth c ls A hx hb hr hml hown hts hlk hin hsz hAe hP hD hA hE hV hS hl
  have hl : lv_has ls 5 [(0, .ref (am 0)), (1, .int (nI k)), (2, .int 5)] := hl
  refine lv_aload_n hx hb d_M_tube_0 rfl (lv_at hl 0 rfl) ?_
  refine lv_aload_n hx hb d_M_tube_1 rfl (lv_at hl 0 rfl) ?_
  refine lv_iload_n hx hb d_M_tube_2 rfl (lv_at hl 1 rfl) ?_
  refine cRV (As := [.int (nI k)]) (rest := [.ref (am 0)]) (q9 := 0) (ci := 8) K_M_isCell x_989 hx hb hml hown hts hE hV hS (c_M_isCell l D ct st am th bu he S (nI k)) hP rfl hP rfl rfl hl.1 rfl (Nat.le_of_ble_eq_true rfl) d_M_tube_3 (Nat.le_of_ble_eq_true rfl) (Nat.le_of_ble_eq_true rfl) ⟨Nat.le_of_ble_eq_true rfl, Nat.le_of_ble_eq_true rfl⟩ ?_
  refine q_ifne_b (tgt := 13) hx hb d_M_tube_6 (by decide) (fun h_6 => ?_) (fun h_6 => absurd (cell_in hS4 hk hn) h_6)
  refine lv_iload_n hx hb d_M_tube_13 rfl (lv_at hl 2 rfl) ?_
  refine lv_i2l (v := 5) hx hb d_M_tube_14 (by decide) ?_
  refine lv_lconst (v := 0) hx hb d_M_tube_15 (by decide) ?_
  refine lv_ldc2 (v := 7) hx hb hown (hts _ (List.mem_cons_of_mem _ x_1042)) d_M_tube_16 ?_
  refine cRS (As := [.long 5, .long 0, .long 7]) (rest := [.ref (am 0)]) K_M_in x_978 hx hb hml hown hts hE hV hS (c_M_in l D ct st 5 0 7) (fun k q h => by simp at h) rfl hl.1 rfl (Nat.le_of_ble_eq_true rfl) d_M_tube_19 (Nat.le_of_ble_eq_true rfl) (Nat.le_of_ble_eq_true rfl) ⟨Nat.le_of_ble_eq_true rfl, Nat.le_of_ble_eq_true rfl⟩ ?_
  refine q_ifeq_b (tgt := 29) hx hb d_M_tube_22 (by decide) (fun h_22 => absurd (w_inN (a := 5) (lo := 0) (hi := 7) (by omega) (by omega) (by omega)) h_22) (fun h_22 => ?_)
  refine lv_iconst (v := 0) hx hb d_M_tube_25 (by decide) ?_
  refine lv_goto (tgt := 30) hx hb d_M_tube_26 (by decide) ?_
  refine q_put (ty := .int) 0 0 (ws1 := [((am 0), .inr (8, [.int 0, .ref (am 1), .ref (am 2), .ref (am 3), .ref (am 4), .ref (am 5), .long bu, .long he, .ref (am 6), .ref (am 7)])), ((am 1), .inl (ct 1, 334, .inr (.inl S)))]) t_M i_M t_M_ok n_M rfl hx hb hts hown hE hP hD hS rfl (by decide) x_936 rfl (by decide +kernel) (rfl) rfl (Nat.le_of_ble_eq_true rfl) rfl d_M_tube_30 (fun H locs hP hD hS => ?_)
  refine lv_aload_n hx hb d_M_tube_33 rfl (lv_at hl 0 rfl) ?_
  refine q_get 0 0 i_M rfl hx hb hts hown hE hP rfl (by decide) x_936 rfl d_M_tube_34 ?_
  refine lv_if_le (tgt := 42) hx hb d_M_tube_37 (by decide) (fun _ => ?_) (fun h => absurd h (by decide))
  refine lv_iload_n hx hb d_M_tube_42 rfl (lv_at hl 2 rfl) ?_
  refine lv_iconst (v := 4) hx hb d_M_tube_43 (by decide) ?_
  refine lv_icmp_ge (tgt := 63) hx hb d_M_tube_44 (by decide) (fun _ => ?_) (fun h => absurd h (by decide))
  refine lv_iload_n hx hb d_M_tube_63 rfl (lv_at hl 2 rfl) ?_
  refine lv_iconst (v := 4) hx hb d_M_tube_64 (by decide) ?_
  refine lv_icmp_ne (tgt := 76) hx hb d_M_tube_65 (by decide) (fun _ => ?_) (fun h => absurd h (by decide))
  refine lv_iload_n hx hb d_M_tube_76 rfl (lv_at hl 2 rfl) ?_
  refine lv_iconst (v := 5) hx hb d_M_tube_77 (by decide) ?_
  refine lv_icmp_ne (tgt := 89) hx hb d_M_tube_78 (by decide) (fun h => absurd h (by decide)) (fun _ => ?_)
  refine lv_aload_n hx hb d_M_tube_81 rfl (lv_at hl 0 rfl) ?_
  refine lv_iload_n hx hb d_M_tube_82 rfl (lv_at hl 1 rfl) ?_
  refine cRV (As := [.int (nI k)]) (rest := []) (q9 := 0) (ci := 8) K_M_speedOf x_1031 hx hb hml hown hts hE hV hS (c_M_speedOf l D ct st am 0 bu he S k (by omega) (hok.1.1)) hP rfl hP rfl rfl hl.1 rfl (Nat.le_of_ble_eq_true rfl) d_M_tube_83 (Nat.le_of_ble_eq_true rfl) (Nat.le_of_ble_eq_true rfl) ⟨Nat.le_of_ble_eq_true rfl, Nat.le_of_ble_eq_true rfl⟩ ?_
  refine lv_goto (tgt := 124) hx hb d_M_tube_86 (by decide) ?_
  refine lv_lstore_n (lv' := [(3, .long (w_sp (sM S) (sP S) k)), (0, .ref (am 0)), (1, .int (nI k)), (2, .int 5)]) hx hb d_M_tube_124 rfl hl (by decide) rfl (fun ls hl => ?_)
  refine lv_lload_n hx hb d_M_tube_125 rfl (lv_at hl 0 rfl) ?_
  refine cRS (As := [.long (w_sp (sM S) (sP S) k)]) (rest := []) K_M_greatest x_1089 hx hb hml hown hts hE hV hS (c_M_greatest l D ct st (w_sp (sM S) (sP S) k)) (fun k q h => by simp at h) rfl hl.1 rfl (Nat.le_of_ble_eq_true rfl) d_M_tube_126 (Nat.le_of_ble_eq_true rfl) (Nat.le_of_ble_eq_true rfl) ⟨Nat.le_of_ble_eq_true rfl, Nat.le_of_ble_eq_true rfl⟩ ?_
  exact rW_i hx hb hr hlk hAe hS hP hD (Nat.le_of_ble_eq_true rfl) (Nat.le_of_ble_eq_true rfl) d_M_tube_129 ⟨rfl, rfl, trivial⟩
set_option maxHeartbeats 4000000 in
set_option maxRecDepth 100000 in
theorem c_M_came_5 (l : Launch) (D : va_G) (ct : Nat → ClassId) (st : Nat → Nat) (am : Nat → Nat) (th : Int32) (bu : Int64) (he : Int64) (S : Nat → Int64) (sz : Nat) : Met l y_M_came (wsy y_M_came b_M_came 2 (some .long)) (rmW 1 0 0 25) (PcW D ct st [.ref (am 0), .int 5] [((am 0), .inr (8, [.int th, .ref (am 1), .ref (am 2), .ref (am 3), .ref (am 4), .ref (am 5), .long bu, .long he, .ref (am 6), .ref (am 7)])), ((am 1), .inl (ct 1, 334, .inr (.inl S)))] sz) (QcW D [((am 0), .inr (8, [.int th, .ref (am 1), .ref (am 2), .ref (am 3), .ref (am 4), .ref (am 5), .long bu, .long he, .ref (am 6), .ref (am 7)])), ((am 1), .inl (ct 1, 334, .inr (.inl S)))] sz (fun v W1 => v = some (.long (S 141)) ∧ W1 = [((am 0), .inr (8, [.int 0, .ref (am 1), .ref (am 2), .ref (am 3), .ref (am 4), .ref (am 5), .long bu, .long he, .ref (am 6), .ref (am 7)])), ((am 1), .inl (ct 1, 334, .inr (.inl S)))] ∧ (True))) 0 0 (va_A [((am 0), .inr (8, [.int th, .ref (am 1), .ref (am 2), .ref (am 3), .ref (am 4), .ref (am 5), .long bu, .long he, .ref (am 6), .ref (am 7)])), ((am 1), .inl (ct 1, 334, .inr (.inl S)))] sz) := by
  refine enterW (by decide) (Nat.le_of_ble_eq_true rfl) ?_
  intro p e s m args below meth c ls A hx hb hr hml hown hts hlk hin hsz hAe hP hD hA hE hV hS hl
  have hl : lv_has ls 2 [(0, .ref (am 0)), (1, .int 5)] := hl
  refine lv_aload_n hx hb d_M_came_0 rfl (lv_at hl 0 rfl) ?_
  refine lv_iload_n hx hb d_M_came_1 rfl (lv_at hl 1 rfl) ?_
  refine lv_i2l (v := 5) hx hb d_M_came_2 (by decide) ?_
  refine lv_lconst (v := 0) hx hb d_M_came_3 (by decide) ?_
  refine lv_ldc2 (v := 5) hx hb hown (hts _ (List.mem_cons_of_mem _ x_1043)) d_M_came_4 ?_
  refine cRS (As := [.long 5, .long 0, .long 5]) (rest := [.ref (am 0)]) K_M_in x_978 hx hb hml hown hts hE hV hS (c_M_in l D ct st 5 0 5) (fun k q h => by simp at h) rfl hl.1 rfl (Nat.le_of_ble_eq_true rfl) d_M_came_7 (Nat.le_of_ble_eq_true rfl) (Nat.le_of_ble_eq_true rfl) ⟨Nat.le_of_ble_eq_true rfl, Nat.le_of_ble_eq_true rfl⟩ ?_
  refine q_ifeq_b (tgt := 17) hx hb d_M_came_10 (by decide) (fun h_10 => absurd (w_inN (a := 5) (lo := 0) (hi := 5) (by omega) (by omega) (by omega)) h_10) (fun h_10 => ?_)
  refine lv_iconst (v := 0) hx hb d_M_came_13 (by decide) ?_
  refine lv_goto (tgt := 18) hx hb d_M_came_14 (by decide) ?_
  refine q_put (ty := .int) 0 0 (ws1 := [((am 0), .inr (8, [.int 0, .ref (am 1), .ref (am 2), .ref (am 3), .ref (am 4), .ref (am 5), .long bu, .long he, .ref (am 6), .ref (am 7)])), ((am 1), .inl (ct 1, 334, .inr (.inl S)))]) t_M i_M t_M_ok n_M rfl hx hb hts hown hE hP hD hS rfl (by decide) x_936 rfl (by decide +kernel) (rfl) rfl (Nat.le_of_ble_eq_true rfl) rfl d_M_came_18 (fun H locs hP hD hS => ?_)
  refine lv_aload_n hx hb d_M_came_21 rfl (lv_at hl 0 rfl) ?_
  refine q_get 0 0 i_M rfl hx hb hts hown hE hP rfl (by decide) x_936 rfl d_M_came_22 ?_
  refine lv_if_le (tgt := 32) hx hb d_M_came_25 (by decide) (fun _ => ?_) (fun h => absurd h (by decide))
  refine lv_aload_n hx hb d_M_came_32 rfl (lv_at hl 0 rfl) ?_
  refine q_get 0 1 i_M rfl hx hb hts hown hE hP rfl (by decide) x_937 rfl d_M_came_33 ?_
  refine lv_sipush (v := 136) hx hb d_M_came_36 (by decide) ?_
  refine lv_iload_n hx hb d_M_came_39 rfl (lv_at hl 1 rfl) ?_
  refine q_iadd (v := 141) hx hb d_M_came_40 (by decide) ?_
  refine q_lald (k := 141) 1 hx hb hE hP rfl rfl (by omega) (by decide) d_M_came_41 ?_
  exact rW_l hx hb hr hlk hAe hS hP hD (Nat.le_of_ble_eq_true rfl) (Nat.le_of_ble_eq_true rfl) d_M_came_42 ⟨rfl, rfl, trivial⟩
set_option maxHeartbeats 4000000 in
set_option maxRecDepth 100000 in
theorem c_M_tube_6 (l : Launch) (D : va_G) (ct : Nat → ClassId) (st : Nat → Nat) (am : Nat → Nat) (th : Int32) (bu : Int64) (he : Int64) (S : Nat → Int64) (n : Nat) (k : Nat) (g : Nat) (hS4 : S 4 = lN n) (hn : n ≤ 32) (hk : k < n) (hg : g < 3) (hS0 : S 0 = lN g) (hok : OkC (sM S) (sP S) (sE S) (sF S) k) (sz : Nat) : Met l y_M_tube (wsy y_M_tube b_M_tube 5 (some .int)) (rmW 5 0 0 124) (PcW D ct st [.ref (am 0), .int (nI k), .int 6] [((am 0), .inr (8, [.int th, .ref (am 1), .ref (am 2), .ref (am 3), .ref (am 4), .ref (am 5), .long bu, .long he, .ref (am 6), .ref (am 7)])), ((am 1), .inl (ct 1, 334, .inr (.inl S)))] sz) (QcW D [((am 0), .inr (8, [.int th, .ref (am 1), .ref (am 2), .ref (am 3), .ref (am 4), .ref (am 5), .long bu, .long he, .ref (am 6), .ref (am 7)])), ((am 1), .inl (ct 1, 334, .inr (.inl S)))] sz (fun v W1 => v = some (.int (w_gr (w_so g (sM S) (sP S) (sE S) k))) ∧ W1 = [((am 0), .inr (8, [.int 0, .ref (am 1), .ref (am 2), .ref (am 3), .ref (am 4), .ref (am 5), .long bu, .long he, .ref (am 6), .ref (am 7)])), ((am 1), .inl (ct 1, 334, .inr (.inl S)))] ∧ (True))) 0 0 (va_A [((am 0), .inr (8, [.int th, .ref (am 1), .ref (am 2), .ref (am 3), .ref (am 4), .ref (am 5), .long bu, .long he, .ref (am 6), .ref (am 7)])), ((am 1), .inl (ct 1, 334, .inr (.inl S)))] sz) := by
  refine enterW (by decide) (Nat.le_of_ble_eq_true rfl) ?_
  intro p e s m args below meth c ls A hx hb hr hml hown hts hlk hin hsz hAe hP hD hA hE hV hS hl
  have hl : lv_has ls 5 [(0, .ref (am 0)), (1, .int (nI k)), (2, .int 6)] := hl
  refine lv_aload_n hx hb d_M_tube_0 rfl (lv_at hl 0 rfl) ?_
  refine lv_aload_n hx hb d_M_tube_1 rfl (lv_at hl 0 rfl) ?_
  refine lv_iload_n hx hb d_M_tube_2 rfl (lv_at hl 1 rfl) ?_
  refine cRV (As := [.int (nI k)]) (rest := [.ref (am 0)]) (q9 := 0) (ci := 8) K_M_isCell x_989 hx hb hml hown hts hE hV hS (c_M_isCell l D ct st am th bu he S (nI k)) hP rfl hP rfl rfl hl.1 rfl (Nat.le_of_ble_eq_true rfl) d_M_tube_3 (Nat.le_of_ble_eq_true rfl) (Nat.le_of_ble_eq_true rfl) ⟨Nat.le_of_ble_eq_true rfl, Nat.le_of_ble_eq_true rfl⟩ ?_
  refine q_ifne_b (tgt := 13) hx hb d_M_tube_6 (by decide) (fun h_6 => ?_) (fun h_6 => absurd (cell_in hS4 hk hn) h_6)
  refine lv_iload_n hx hb d_M_tube_13 rfl (lv_at hl 2 rfl) ?_
  refine lv_i2l (v := 6) hx hb d_M_tube_14 (by decide) ?_
  refine lv_lconst (v := 0) hx hb d_M_tube_15 (by decide) ?_
  refine lv_ldc2 (v := 7) hx hb hown (hts _ (List.mem_cons_of_mem _ x_1042)) d_M_tube_16 ?_
  refine cRS (As := [.long 6, .long 0, .long 7]) (rest := [.ref (am 0)]) K_M_in x_978 hx hb hml hown hts hE hV hS (c_M_in l D ct st 6 0 7) (fun k q h => by simp at h) rfl hl.1 rfl (Nat.le_of_ble_eq_true rfl) d_M_tube_19 (Nat.le_of_ble_eq_true rfl) (Nat.le_of_ble_eq_true rfl) ⟨Nat.le_of_ble_eq_true rfl, Nat.le_of_ble_eq_true rfl⟩ ?_
  refine q_ifeq_b (tgt := 29) hx hb d_M_tube_22 (by decide) (fun h_22 => absurd (w_inN (a := 6) (lo := 0) (hi := 7) (by omega) (by omega) (by omega)) h_22) (fun h_22 => ?_)
  refine lv_iconst (v := 0) hx hb d_M_tube_25 (by decide) ?_
  refine lv_goto (tgt := 30) hx hb d_M_tube_26 (by decide) ?_
  refine q_put (ty := .int) 0 0 (ws1 := [((am 0), .inr (8, [.int 0, .ref (am 1), .ref (am 2), .ref (am 3), .ref (am 4), .ref (am 5), .long bu, .long he, .ref (am 6), .ref (am 7)])), ((am 1), .inl (ct 1, 334, .inr (.inl S)))]) t_M i_M t_M_ok n_M rfl hx hb hts hown hE hP hD hS rfl (by decide) x_936 rfl (by decide +kernel) (rfl) rfl (Nat.le_of_ble_eq_true rfl) rfl d_M_tube_30 (fun H locs hP hD hS => ?_)
  refine lv_aload_n hx hb d_M_tube_33 rfl (lv_at hl 0 rfl) ?_
  refine q_get 0 0 i_M rfl hx hb hts hown hE hP rfl (by decide) x_936 rfl d_M_tube_34 ?_
  refine lv_if_le (tgt := 42) hx hb d_M_tube_37 (by decide) (fun _ => ?_) (fun h => absurd h (by decide))
  refine lv_iload_n hx hb d_M_tube_42 rfl (lv_at hl 2 rfl) ?_
  refine lv_iconst (v := 4) hx hb d_M_tube_43 (by decide) ?_
  refine lv_icmp_ge (tgt := 63) hx hb d_M_tube_44 (by decide) (fun _ => ?_) (fun h => absurd h (by decide))
  refine lv_iload_n hx hb d_M_tube_63 rfl (lv_at hl 2 rfl) ?_
  refine lv_iconst (v := 4) hx hb d_M_tube_64 (by decide) ?_
  refine lv_icmp_ne (tgt := 76) hx hb d_M_tube_65 (by decide) (fun _ => ?_) (fun h => absurd h (by decide))
  refine lv_iload_n hx hb d_M_tube_76 rfl (lv_at hl 2 rfl) ?_
  refine lv_iconst (v := 5) hx hb d_M_tube_77 (by decide) ?_
  refine lv_icmp_ne (tgt := 89) hx hb d_M_tube_78 (by decide) (fun _ => ?_) (fun h => absurd h (by decide))
  refine lv_iload_n hx hb d_M_tube_89 rfl (lv_at hl 2 rfl) ?_
  refine lv_bipush (v := 6) hx hb d_M_tube_90 (by decide) ?_
  refine lv_icmp_ne (tgt := 103) hx hb d_M_tube_92 (by decide) (fun h => absurd h (by decide)) (fun _ => ?_)
  refine lv_aload_n hx hb d_M_tube_95 rfl (lv_at hl 0 rfl) ?_
  refine lv_iload_n hx hb d_M_tube_96 rfl (lv_at hl 1 rfl) ?_
  refine cRV (As := [.int (nI k)]) (rest := []) (q9 := 0) (ci := 8) K_M_soundOf x_1038 hx hb hml hown hts hE hV hS (c_M_soundOf l D ct st am 0 bu he S g k (hg) (hS0) (by omega) (hok)) hP rfl hP rfl rfl hl.1 rfl (Nat.le_of_ble_eq_true rfl) d_M_tube_97 (Nat.le_of_ble_eq_true rfl) (Nat.le_of_ble_eq_true rfl) ⟨Nat.le_of_ble_eq_true rfl, Nat.le_of_ble_eq_true rfl⟩ ?_
  refine lv_goto (tgt := 124) hx hb d_M_tube_100 (by decide) ?_
  refine lv_lstore_n (lv' := [(3, .long (w_so g (sM S) (sP S) (sE S) k)), (0, .ref (am 0)), (1, .int (nI k)), (2, .int 6)]) hx hb d_M_tube_124 rfl hl (by decide) rfl (fun ls hl => ?_)
  refine lv_lload_n hx hb d_M_tube_125 rfl (lv_at hl 0 rfl) ?_
  refine cRS (As := [.long (w_so g (sM S) (sP S) (sE S) k)]) (rest := []) K_M_greatest x_1089 hx hb hml hown hts hE hV hS (c_M_greatest l D ct st (w_so g (sM S) (sP S) (sE S) k)) (fun k q h => by simp at h) rfl hl.1 rfl (Nat.le_of_ble_eq_true rfl) d_M_tube_126 (Nat.le_of_ble_eq_true rfl) (Nat.le_of_ble_eq_true rfl) ⟨Nat.le_of_ble_eq_true rfl, Nat.le_of_ble_eq_true rfl⟩ ?_
  exact rW_i hx hb hr hlk hAe hS hP hD (Nat.le_of_ble_eq_true rfl) (Nat.le_of_ble_eq_true rfl) d_M_tube_129 ⟨rfl, rfl, trivial⟩
set_option maxHeartbeats 4000000 in
set_option maxRecDepth 100000 in
theorem c_M_tube_7 (l : Launch) (D : va_G) (ct : Nat → ClassId) (st : Nat → Nat) (am : Nat → Nat) (th : Int32) (bu : Int64) (he : Int64) (S : Nat → Int64) (n : Nat) (k : Nat) (g : Nat) (hS4 : S 4 = lN n) (hn : n ≤ 32) (hk : k < n) (hg : g < 3) (hS0 : S 0 = lN g) (hok : OkC (sM S) (sP S) (sE S) (sF S) k) (sz : Nat) : Met l y_M_tube (wsy y_M_tube b_M_tube 5 (some .int)) (rmW 4 0 0 99) (PcW D ct st [.ref (am 0), .int (nI k), .int 7] [((am 0), .inr (8, [.int th, .ref (am 1), .ref (am 2), .ref (am 3), .ref (am 4), .ref (am 5), .long bu, .long he, .ref (am 6), .ref (am 7)])), ((am 1), .inl (ct 1, 334, .inr (.inl S)))] sz) (QcW D [((am 0), .inr (8, [.int th, .ref (am 1), .ref (am 2), .ref (am 3), .ref (am 4), .ref (am 5), .long bu, .long he, .ref (am 6), .ref (am 7)])), ((am 1), .inl (ct 1, 334, .inr (.inl S)))] sz (fun v W1 => v = some (.int (w_gr (fd (100 * w_pr g (sM S) (sP S) (sE S) k) (S (8 + k))))) ∧ W1 = [((am 0), .inr (8, [.int 0, .ref (am 1), .ref (am 2), .ref (am 3), .ref (am 4), .ref (am 5), .long bu, .long he, .ref (am 6), .ref (am 7)])), ((am 1), .inl (ct 1, 334, .inr (.inl S)))] ∧ (True))) 0 0 (va_A [((am 0), .inr (8, [.int th, .ref (am 1), .ref (am 2), .ref (am 3), .ref (am 4), .ref (am 5), .long bu, .long he, .ref (am 6), .ref (am 7)])), ((am 1), .inl (ct 1, 334, .inr (.inl S)))] sz) := by
  refine enterW (by decide) (Nat.le_of_ble_eq_true rfl) ?_
  intro p e s m args below meth c ls A hx hb hr hml hown hts hlk hin hsz hAe hP hD hA hE hV hS hl
  have hl : lv_has ls 5 [(0, .ref (am 0)), (1, .int (nI k)), (2, .int 7)] := hl
  refine lv_aload_n hx hb d_M_tube_0 rfl (lv_at hl 0 rfl) ?_
  refine lv_aload_n hx hb d_M_tube_1 rfl (lv_at hl 0 rfl) ?_
  refine lv_iload_n hx hb d_M_tube_2 rfl (lv_at hl 1 rfl) ?_
  refine cRV (As := [.int (nI k)]) (rest := [.ref (am 0)]) (q9 := 0) (ci := 8) K_M_isCell x_989 hx hb hml hown hts hE hV hS (c_M_isCell l D ct st am th bu he S (nI k)) hP rfl hP rfl rfl hl.1 rfl (Nat.le_of_ble_eq_true rfl) d_M_tube_3 (Nat.le_of_ble_eq_true rfl) (Nat.le_of_ble_eq_true rfl) ⟨Nat.le_of_ble_eq_true rfl, Nat.le_of_ble_eq_true rfl⟩ ?_
  refine q_ifne_b (tgt := 13) hx hb d_M_tube_6 (by decide) (fun h_6 => ?_) (fun h_6 => absurd (cell_in hS4 hk hn) h_6)
  refine lv_iload_n hx hb d_M_tube_13 rfl (lv_at hl 2 rfl) ?_
  refine lv_i2l (v := 7) hx hb d_M_tube_14 (by decide) ?_
  refine lv_lconst (v := 0) hx hb d_M_tube_15 (by decide) ?_
  refine lv_ldc2 (v := 7) hx hb hown (hts _ (List.mem_cons_of_mem _ x_1042)) d_M_tube_16 ?_
  refine cRS (As := [.long 7, .long 0, .long 7]) (rest := [.ref (am 0)]) K_M_in x_978 hx hb hml hown hts hE hV hS (c_M_in l D ct st 7 0 7) (fun k q h => by simp at h) rfl hl.1 rfl (Nat.le_of_ble_eq_true rfl) d_M_tube_19 (Nat.le_of_ble_eq_true rfl) (Nat.le_of_ble_eq_true rfl) ⟨Nat.le_of_ble_eq_true rfl, Nat.le_of_ble_eq_true rfl⟩ ?_
  refine q_ifeq_b (tgt := 29) hx hb d_M_tube_22 (by decide) (fun h_22 => absurd (w_inN (a := 7) (lo := 0) (hi := 7) (by omega) (by omega) (by omega)) h_22) (fun h_22 => ?_)
  refine lv_iconst (v := 0) hx hb d_M_tube_25 (by decide) ?_
  refine lv_goto (tgt := 30) hx hb d_M_tube_26 (by decide) ?_
  refine q_put (ty := .int) 0 0 (ws1 := [((am 0), .inr (8, [.int 0, .ref (am 1), .ref (am 2), .ref (am 3), .ref (am 4), .ref (am 5), .long bu, .long he, .ref (am 6), .ref (am 7)])), ((am 1), .inl (ct 1, 334, .inr (.inl S)))]) t_M i_M t_M_ok n_M rfl hx hb hts hown hE hP hD hS rfl (by decide) x_936 rfl (by decide +kernel) (rfl) rfl (Nat.le_of_ble_eq_true rfl) rfl d_M_tube_30 (fun H locs hP hD hS => ?_)
  refine lv_aload_n hx hb d_M_tube_33 rfl (lv_at hl 0 rfl) ?_
  refine q_get 0 0 i_M rfl hx hb hts hown hE hP rfl (by decide) x_936 rfl d_M_tube_34 ?_
  refine lv_if_le (tgt := 42) hx hb d_M_tube_37 (by decide) (fun _ => ?_) (fun h => absurd h (by decide))
  refine lv_iload_n hx hb d_M_tube_42 rfl (lv_at hl 2 rfl) ?_
  refine lv_iconst (v := 4) hx hb d_M_tube_43 (by decide) ?_
  refine lv_icmp_ge (tgt := 63) hx hb d_M_tube_44 (by decide) (fun _ => ?_) (fun h => absurd h (by decide))
  refine lv_iload_n hx hb d_M_tube_63 rfl (lv_at hl 2 rfl) ?_
  refine lv_iconst (v := 4) hx hb d_M_tube_64 (by decide) ?_
  refine lv_icmp_ne (tgt := 76) hx hb d_M_tube_65 (by decide) (fun _ => ?_) (fun h => absurd h (by decide))
  refine lv_iload_n hx hb d_M_tube_76 rfl (lv_at hl 2 rfl) ?_
  refine lv_iconst (v := 5) hx hb d_M_tube_77 (by decide) ?_
  refine lv_icmp_ne (tgt := 89) hx hb d_M_tube_78 (by decide) (fun _ => ?_) (fun h => absurd h (by decide))
  refine lv_iload_n hx hb d_M_tube_89 rfl (lv_at hl 2 rfl) ?_
  refine lv_bipush (v := 6) hx hb d_M_tube_90 (by decide) ?_
  refine lv_icmp_ne (tgt := 103) hx hb d_M_tube_92 (by decide) (fun _ => ?_) (fun h => absurd h (by decide))
  refine lv_ldc2 (v := 100) hx hb hown (hts _ (List.mem_cons_of_mem _ x_1011)) d_M_tube_103 ?_
  refine lv_aload_n hx hb d_M_tube_106 rfl (lv_at hl 0 rfl) ?_
  refine lv_iload_n hx hb d_M_tube_107 rfl (lv_at hl 1 rfl) ?_
  refine cRV (As := [.int (nI k)]) (rest := [.long 100]) (q9 := 0) (ci := 8) K_M_pressureOf x_1046 hx hb hml hown hts hE hV hS (c_M_pressureOf l D ct st am 0 bu he S g k (hg) (hS0) (by omega) (hok.1)) hP rfl hP rfl rfl hl.1 rfl (Nat.le_of_ble_eq_true rfl) d_M_tube_108 (Nat.le_of_ble_eq_true rfl) (Nat.le_of_ble_eq_true rfl) ⟨Nat.le_of_ble_eq_true rfl, Nat.le_of_ble_eq_true rfl⟩ ?_
  refine lv_lmul hx hb d_M_tube_111 ?_
  refine lv_aload_n hx hb d_M_tube_112 rfl (lv_at hl 0 rfl) ?_
  refine q_get 0 1 i_M rfl hx hb hts hown hE hP rfl (by decide) x_937 rfl d_M_tube_113 ?_
  refine lv_bipush (v := 8) hx hb d_M_tube_116 (by decide) ?_
  refine lv_iload_n hx hb d_M_tube_118 rfl (lv_at hl 1 rfl) ?_
  refine q_iadd (v := nI (8 + k)) hx hb d_M_tube_119 (nI_add 8 k) ?_
  refine q_lald (k := 8 + k) 1 hx hb hE hP rfl rfl (by omega) (by decide) d_M_tube_120 ?_
  refine cRS (As := [.long (100 * (w_pr g (sM S) (sP S) (sE S) k)), .long (S (8 + k))]) (rest := []) K_M_down x_1000 hx hb hml hown hts hE hV hS (c_M_down l D ct st (100 * (w_pr g (sM S) (sP S) (sE S) k)) (S (8 + k)) (by have := hok.1.1; exact this)) (fun k q h => by simp at h) rfl hl.1 rfl (Nat.le_of_ble_eq_true rfl) d_M_tube_121 (Nat.le_of_ble_eq_true rfl) (Nat.le_of_ble_eq_true rfl) ⟨Nat.le_of_ble_eq_true rfl, Nat.le_of_ble_eq_true rfl⟩ ?_
  refine lv_lstore_n (lv' := [(3, .long (fd (100 * (w_pr g (sM S) (sP S) (sE S) k)) (S (8 + k)))), (0, .ref (am 0)), (1, .int (nI k)), (2, .int 7)]) hx hb d_M_tube_124 rfl hl (by decide) rfl (fun ls hl => ?_)
  refine lv_lload_n hx hb d_M_tube_125 rfl (lv_at hl 0 rfl) ?_
  refine cRS (As := [.long (fd (100 * (w_pr g (sM S) (sP S) (sE S) k)) (S (8 + k)))]) (rest := []) K_M_greatest x_1089 hx hb hml hown hts hE hV hS (c_M_greatest l D ct st (fd (100 * (w_pr g (sM S) (sP S) (sE S) k)) (S (8 + k)))) (fun k q h => by simp at h) rfl hl.1 rfl (Nat.le_of_ble_eq_true rfl) d_M_tube_126 (Nat.le_of_ble_eq_true rfl) (Nat.le_of_ble_eq_true rfl) ⟨Nat.le_of_ble_eq_true rfl, Nat.le_of_ble_eq_true rfl⟩ ?_
  exact rW_i hx hb hr hlk hAe hS hP hD (Nat.le_of_ble_eq_true rfl) (Nat.le_of_ble_eq_true rfl) d_M_tube_129 ⟨rfl, rfl, trivial⟩
set_option maxHeartbeats 4000000 in
set_option maxRecDepth 100000 in
theorem c_M_tube_b1 (l : Launch) (D : va_G) (ct : Nat → ClassId) (st : Nat → Nat) (am : Nat → Nat) (th : Int32) (bu : Int64) (he : Int64) (S : Nat → Int64) (a0 : Int32) (a1 : Int32) (hb0 : ¬ w_in a0.toInt64 0 (S 4 - 1)) (sz : Nat) : Met l y_M_tube (wsy y_M_tube b_M_tube 5 (some .int)) (rmW 2 0 0 46) (PcW D ct st [.ref (am 0), .int a0, .int a1] [((am 0), .inr (8, [.int th, .ref (am 1), .ref (am 2), .ref (am 3), .ref (am 4), .ref (am 5), .long bu, .long he, .ref (am 6), .ref (am 7)])), ((am 1), .inl (ct 1, 334, .inr (.inl S)))] sz) (QcW D [((am 0), .inr (8, [.int th, .ref (am 1), .ref (am 2), .ref (am 3), .ref (am 4), .ref (am 5), .long bu, .long he, .ref (am 6), .ref (am 7)])), ((am 1), .inl (ct 1, 334, .inr (.inl S)))] sz (fun v W1 => v = some (.int 0) ∧ W1 = [((am 0), .inr (8, [.int 1, .ref (am 1), .ref (am 2), .ref (am 3), .ref (am 4), .ref (am 5), .long bu, .long he, .ref (am 6), .ref (am 7)])), ((am 1), .inl (ct 1, 334, .inr (.inl S)))] ∧ (True))) 0 0 (va_A [((am 0), .inr (8, [.int th, .ref (am 1), .ref (am 2), .ref (am 3), .ref (am 4), .ref (am 5), .long bu, .long he, .ref (am 6), .ref (am 7)])), ((am 1), .inl (ct 1, 334, .inr (.inl S)))] sz) := by
  refine enterW (by decide) (Nat.le_of_ble_eq_true rfl) ?_
  intro p e s m args below meth c ls A hx hb hr hml hown hts hlk hin hsz hAe hP hD hA hE hV hS hl
  have hl : lv_has ls 5 [(0, .ref (am 0)), (1, .int a0), (2, .int a1)] := hl
  refine lv_aload_n hx hb d_M_tube_0 rfl (lv_at hl 0 rfl) ?_
  refine lv_aload_n hx hb d_M_tube_1 rfl (lv_at hl 0 rfl) ?_
  refine lv_iload_n hx hb d_M_tube_2 rfl (lv_at hl 1 rfl) ?_
  refine cRV (As := [.int a0]) (rest := [.ref (am 0)]) (q9 := 0) (ci := 8) K_M_isCell x_989 hx hb hml hown hts hE hV hS (c_M_isCell l D ct st am th bu he S a0) hP rfl hP rfl rfl hl.1 rfl (Nat.le_of_ble_eq_true rfl) d_M_tube_3 (Nat.le_of_ble_eq_true rfl) (Nat.le_of_ble_eq_true rfl) ⟨Nat.le_of_ble_eq_true rfl, Nat.le_of_ble_eq_true rfl⟩ ?_
  refine q_ifne_b (tgt := 13) hx hb d_M_tube_6 (by decide) (fun h_6 => absurd h_6 hb0) (fun h_6 => ?_)
  refine lv_iconst (v := 1) hx hb d_M_tube_9 (by decide) ?_
  refine lv_goto (tgt := 30) hx hb d_M_tube_10 (by decide) ?_
  refine q_put (ty := .int) 0 0 (ws1 := [((am 0), .inr (8, [.int 1, .ref (am 1), .ref (am 2), .ref (am 3), .ref (am 4), .ref (am 5), .long bu, .long he, .ref (am 6), .ref (am 7)])), ((am 1), .inl (ct 1, 334, .inr (.inl S)))]) t_M i_M t_M_ok n_M rfl hx hb hts hown hE hP hD hS rfl (by decide) x_936 rfl (by decide +kernel) (rfl) rfl (Nat.le_of_ble_eq_true rfl) rfl d_M_tube_30 (fun H locs hP hD hS => ?_)
  refine lv_aload_n hx hb d_M_tube_33 rfl (lv_at hl 0 rfl) ?_
  refine q_get 0 0 i_M rfl hx hb hts hown hE hP rfl (by decide) x_936 rfl d_M_tube_34 ?_
  refine lv_if_le (tgt := 42) hx hb d_M_tube_37 (by decide) (fun h => absurd h (by decide)) (fun _ => ?_)
  refine lv_iconst (v := 0) hx hb d_M_tube_40 (by decide) ?_
  exact rW_i hx hb hr hlk hAe hS hP hD (Nat.le_of_ble_eq_true rfl) (Nat.le_of_ble_eq_true rfl) d_M_tube_41 ⟨rfl, rfl, trivial⟩
set_option maxHeartbeats 4000000 in
set_option maxRecDepth 100000 in
theorem c_M_tube_b2 (l : Launch) (D : va_G) (ct : Nat → ClassId) (st : Nat → Nat) (am : Nat → Nat) (th : Int32) (bu : Int64) (he : Int64) (S : Nat → Int64) (a0 : Int32) (a1 : Int32) (hb1 : w_in a0.toInt64 0 (S 4 - 1)) (hb0 : ¬ w_in a1.toInt64 0 7) (sz : Nat) : Met l y_M_tube (wsy y_M_tube b_M_tube 5 (some .int)) (rmW 2 0 0 46) (PcW D ct st [.ref (am 0), .int a0, .int a1] [((am 0), .inr (8, [.int th, .ref (am 1), .ref (am 2), .ref (am 3), .ref (am 4), .ref (am 5), .long bu, .long he, .ref (am 6), .ref (am 7)])), ((am 1), .inl (ct 1, 334, .inr (.inl S)))] sz) (QcW D [((am 0), .inr (8, [.int th, .ref (am 1), .ref (am 2), .ref (am 3), .ref (am 4), .ref (am 5), .long bu, .long he, .ref (am 6), .ref (am 7)])), ((am 1), .inl (ct 1, 334, .inr (.inl S)))] sz (fun v W1 => v = some (.int 0) ∧ W1 = [((am 0), .inr (8, [.int 2, .ref (am 1), .ref (am 2), .ref (am 3), .ref (am 4), .ref (am 5), .long bu, .long he, .ref (am 6), .ref (am 7)])), ((am 1), .inl (ct 1, 334, .inr (.inl S)))] ∧ (True))) 0 0 (va_A [((am 0), .inr (8, [.int th, .ref (am 1), .ref (am 2), .ref (am 3), .ref (am 4), .ref (am 5), .long bu, .long he, .ref (am 6), .ref (am 7)])), ((am 1), .inl (ct 1, 334, .inr (.inl S)))] sz) := by
  refine enterW (by decide) (Nat.le_of_ble_eq_true rfl) ?_
  intro p e s m args below meth c ls A hx hb hr hml hown hts hlk hin hsz hAe hP hD hA hE hV hS hl
  have hl : lv_has ls 5 [(0, .ref (am 0)), (1, .int a0), (2, .int a1)] := hl
  refine lv_aload_n hx hb d_M_tube_0 rfl (lv_at hl 0 rfl) ?_
  refine lv_aload_n hx hb d_M_tube_1 rfl (lv_at hl 0 rfl) ?_
  refine lv_iload_n hx hb d_M_tube_2 rfl (lv_at hl 1 rfl) ?_
  refine cRV (As := [.int a0]) (rest := [.ref (am 0)]) (q9 := 0) (ci := 8) K_M_isCell x_989 hx hb hml hown hts hE hV hS (c_M_isCell l D ct st am th bu he S a0) hP rfl hP rfl rfl hl.1 rfl (Nat.le_of_ble_eq_true rfl) d_M_tube_3 (Nat.le_of_ble_eq_true rfl) (Nat.le_of_ble_eq_true rfl) ⟨Nat.le_of_ble_eq_true rfl, Nat.le_of_ble_eq_true rfl⟩ ?_
  refine q_ifne_b (tgt := 13) hx hb d_M_tube_6 (by decide) (fun h_6 => ?_) (fun h_6 => absurd hb1 h_6)
  refine lv_iload_n hx hb d_M_tube_13 rfl (lv_at hl 2 rfl) ?_
  refine lv_i2l hx hb d_M_tube_14 rfl ?_
  refine lv_lconst (v := 0) hx hb d_M_tube_15 (by decide) ?_
  refine lv_ldc2 (v := 7) hx hb hown (hts _ (List.mem_cons_of_mem _ x_1042)) d_M_tube_16 ?_
  refine cRS (As := [.long a1.toInt64, .long 0, .long 7]) (rest := [.ref (am 0)]) K_M_in x_978 hx hb hml hown hts hE hV hS (c_M_in l D ct st a1.toInt64 0 7) (fun k q h => by simp at h) rfl hl.1 rfl (Nat.le_of_ble_eq_true rfl) d_M_tube_19 (Nat.le_of_ble_eq_true rfl) (Nat.le_of_ble_eq_true rfl) ⟨Nat.le_of_ble_eq_true rfl, Nat.le_of_ble_eq_true rfl⟩ ?_
  refine q_ifeq_b (tgt := 29) hx hb d_M_tube_22 (by decide) (fun h_22 => ?_) (fun h_22 => absurd h_22 hb0)
  refine lv_iconst (v := 2) hx hb d_M_tube_29 (by decide) ?_
  refine q_put (ty := .int) 0 0 (ws1 := [((am 0), .inr (8, [.int 2, .ref (am 1), .ref (am 2), .ref (am 3), .ref (am 4), .ref (am 5), .long bu, .long he, .ref (am 6), .ref (am 7)])), ((am 1), .inl (ct 1, 334, .inr (.inl S)))]) t_M i_M t_M_ok n_M rfl hx hb hts hown hE hP hD hS rfl (by decide) x_936 rfl (by decide +kernel) (rfl) rfl (Nat.le_of_ble_eq_true rfl) rfl d_M_tube_30 (fun H locs hP hD hS => ?_)
  refine lv_aload_n hx hb d_M_tube_33 rfl (lv_at hl 0 rfl) ?_
  refine q_get 0 0 i_M rfl hx hb hts hown hE hP rfl (by decide) x_936 rfl d_M_tube_34 ?_
  refine lv_if_le (tgt := 42) hx hb d_M_tube_37 (by decide) (fun h => absurd h (by decide)) (fun _ => ?_)
  refine lv_iconst (v := 0) hx hb d_M_tube_40 (by decide) ?_
  exact rW_i hx hb hr hlk hAe hS hP hD (Nat.le_of_ble_eq_true rfl) (Nat.le_of_ble_eq_true rfl) d_M_tube_41 ⟨rfl, rfl, trivial⟩
set_option maxHeartbeats 4000000 in
set_option maxRecDepth 100000 in
theorem c_M_anew_b1 (l : Launch) (D : va_G) (ct : Nat → ClassId) (st : Nat → Nat) (am : Nat → Nat) (th : Int32) (bu : Int64) (he : Int64) (S : Nat → Int64) (a0 : Int32) (a1 : Int32) (hb0 : ¬ w_in a0.toInt64 0 (S 4 - 1)) (sz : Nat) : Met l y_M_anew (wsy y_M_anew b_M_anew 3 (some .int)) (rmW 2 0 0 46) (PcW D ct st [.ref (am 0), .int a0, .int a1] [((am 0), .inr (8, [.int th, .ref (am 1), .ref (am 2), .ref (am 3), .ref (am 4), .ref (am 5), .long bu, .long he, .ref (am 6), .ref (am 7)])), ((am 1), .inl (ct 1, 334, .inr (.inl S)))] sz) (QcW D [((am 0), .inr (8, [.int th, .ref (am 1), .ref (am 2), .ref (am 3), .ref (am 4), .ref (am 5), .long bu, .long he, .ref (am 6), .ref (am 7)])), ((am 1), .inl (ct 1, 334, .inr (.inl S)))] sz (fun v W1 => v = some (.int 0) ∧ W1 = [((am 0), .inr (8, [.int 1, .ref (am 1), .ref (am 2), .ref (am 3), .ref (am 4), .ref (am 5), .long bu, .long he, .ref (am 6), .ref (am 7)])), ((am 1), .inl (ct 1, 334, .inr (.inl S)))] ∧ (True))) 0 0 (va_A [((am 0), .inr (8, [.int th, .ref (am 1), .ref (am 2), .ref (am 3), .ref (am 4), .ref (am 5), .long bu, .long he, .ref (am 6), .ref (am 7)])), ((am 1), .inl (ct 1, 334, .inr (.inl S)))] sz) := by
  refine enterW (by decide) (Nat.le_of_ble_eq_true rfl) ?_
  intro p e s m args below meth c ls A hx hb hr hml hown hts hlk hin hsz hAe hP hD hA hE hV hS hl
  have hl : lv_has ls 3 [(0, .ref (am 0)), (1, .int a0), (2, .int a1)] := hl
  refine lv_aload_n hx hb d_M_anew_0 rfl (lv_at hl 0 rfl) ?_
  refine lv_aload_n hx hb d_M_anew_1 rfl (lv_at hl 0 rfl) ?_
  refine lv_iload_n hx hb d_M_anew_2 rfl (lv_at hl 1 rfl) ?_
  refine cRV (As := [.int a0]) (rest := [.ref (am 0)]) (q9 := 0) (ci := 8) K_M_isCell x_989 hx hb hml hown hts hE hV hS (c_M_isCell l D ct st am th bu he S a0) hP rfl hP rfl rfl hl.1 rfl (Nat.le_of_ble_eq_true rfl) d_M_anew_3 (Nat.le_of_ble_eq_true rfl) (Nat.le_of_ble_eq_true rfl) ⟨Nat.le_of_ble_eq_true rfl, Nat.le_of_ble_eq_true rfl⟩ ?_
  refine q_ifne_b (tgt := 13) hx hb d_M_anew_6 (by decide) (fun h_6 => absurd h_6 hb0) (fun h_6 => ?_)
  refine lv_iconst (v := 1) hx hb d_M_anew_9 (by decide) ?_
  refine lv_goto (tgt := 30) hx hb d_M_anew_10 (by decide) ?_
  refine q_put (ty := .int) 0 0 (ws1 := [((am 0), .inr (8, [.int 1, .ref (am 1), .ref (am 2), .ref (am 3), .ref (am 4), .ref (am 5), .long bu, .long he, .ref (am 6), .ref (am 7)])), ((am 1), .inl (ct 1, 334, .inr (.inl S)))]) t_M i_M t_M_ok n_M rfl hx hb hts hown hE hP hD hS rfl (by decide) x_936 rfl (by decide +kernel) (rfl) rfl (Nat.le_of_ble_eq_true rfl) rfl d_M_anew_30 (fun H locs hP hD hS => ?_)
  refine lv_aload_n hx hb d_M_anew_33 rfl (lv_at hl 0 rfl) ?_
  refine q_get 0 0 i_M rfl hx hb hts hown hE hP rfl (by decide) x_936 rfl d_M_anew_34 ?_
  refine lv_if_le (tgt := 44) hx hb d_M_anew_37 (by decide) (fun h => absurd h (by decide)) (fun _ => ?_)
  refine lv_iconst (v := 0) hx hb d_M_anew_40 (by decide) ?_
  refine lv_goto (tgt := 59) hx hb d_M_anew_41 (by decide) ?_
  exact rW_i hx hb hr hlk hAe hS hP hD (Nat.le_of_ble_eq_true rfl) (Nat.le_of_ble_eq_true rfl) d_M_anew_59 ⟨rfl, rfl, trivial⟩
set_option maxHeartbeats 4000000 in
set_option maxRecDepth 100000 in
theorem c_M_anew_b2 (l : Launch) (D : va_G) (ct : Nat → ClassId) (st : Nat → Nat) (am : Nat → Nat) (th : Int32) (bu : Int64) (he : Int64) (S : Nat → Int64) (a0 : Int32) (a1 : Int32) (hb1 : w_in a0.toInt64 0 (S 4 - 1)) (hb0 : ¬ w_in a1.toInt64 0 3) (sz : Nat) : Met l y_M_anew (wsy y_M_anew b_M_anew 3 (some .int)) (rmW 2 0 0 46) (PcW D ct st [.ref (am 0), .int a0, .int a1] [((am 0), .inr (8, [.int th, .ref (am 1), .ref (am 2), .ref (am 3), .ref (am 4), .ref (am 5), .long bu, .long he, .ref (am 6), .ref (am 7)])), ((am 1), .inl (ct 1, 334, .inr (.inl S)))] sz) (QcW D [((am 0), .inr (8, [.int th, .ref (am 1), .ref (am 2), .ref (am 3), .ref (am 4), .ref (am 5), .long bu, .long he, .ref (am 6), .ref (am 7)])), ((am 1), .inl (ct 1, 334, .inr (.inl S)))] sz (fun v W1 => v = some (.int 0) ∧ W1 = [((am 0), .inr (8, [.int 2, .ref (am 1), .ref (am 2), .ref (am 3), .ref (am 4), .ref (am 5), .long bu, .long he, .ref (am 6), .ref (am 7)])), ((am 1), .inl (ct 1, 334, .inr (.inl S)))] ∧ (True))) 0 0 (va_A [((am 0), .inr (8, [.int th, .ref (am 1), .ref (am 2), .ref (am 3), .ref (am 4), .ref (am 5), .long bu, .long he, .ref (am 6), .ref (am 7)])), ((am 1), .inl (ct 1, 334, .inr (.inl S)))] sz) := by
  refine enterW (by decide) (Nat.le_of_ble_eq_true rfl) ?_
  intro p e s m args below meth c ls A hx hb hr hml hown hts hlk hin hsz hAe hP hD hA hE hV hS hl
  have hl : lv_has ls 3 [(0, .ref (am 0)), (1, .int a0), (2, .int a1)] := hl
  refine lv_aload_n hx hb d_M_anew_0 rfl (lv_at hl 0 rfl) ?_
  refine lv_aload_n hx hb d_M_anew_1 rfl (lv_at hl 0 rfl) ?_
  refine lv_iload_n hx hb d_M_anew_2 rfl (lv_at hl 1 rfl) ?_
  refine cRV (As := [.int a0]) (rest := [.ref (am 0)]) (q9 := 0) (ci := 8) K_M_isCell x_989 hx hb hml hown hts hE hV hS (c_M_isCell l D ct st am th bu he S a0) hP rfl hP rfl rfl hl.1 rfl (Nat.le_of_ble_eq_true rfl) d_M_anew_3 (Nat.le_of_ble_eq_true rfl) (Nat.le_of_ble_eq_true rfl) ⟨Nat.le_of_ble_eq_true rfl, Nat.le_of_ble_eq_true rfl⟩ ?_
  refine q_ifne_b (tgt := 13) hx hb d_M_anew_6 (by decide) (fun h_6 => ?_) (fun h_6 => absurd hb1 h_6)
  refine lv_iload_n hx hb d_M_anew_13 rfl (lv_at hl 2 rfl) ?_
  refine lv_i2l hx hb d_M_anew_14 rfl ?_
  refine lv_lconst (v := 0) hx hb d_M_anew_15 (by decide) ?_
  refine lv_ldc2 (v := 3) hx hb hown (hts _ (List.mem_cons_of_mem _ x_1045)) d_M_anew_16 ?_
  refine cRS (As := [.long a1.toInt64, .long 0, .long 3]) (rest := [.ref (am 0)]) K_M_in x_978 hx hb hml hown hts hE hV hS (c_M_in l D ct st a1.toInt64 0 3) (fun k q h => by simp at h) rfl hl.1 rfl (Nat.le_of_ble_eq_true rfl) d_M_anew_19 (Nat.le_of_ble_eq_true rfl) (Nat.le_of_ble_eq_true rfl) ⟨Nat.le_of_ble_eq_true rfl, Nat.le_of_ble_eq_true rfl⟩ ?_
  refine q_ifeq_b (tgt := 29) hx hb d_M_anew_22 (by decide) (fun h_22 => ?_) (fun h_22 => absurd h_22 hb0)
  refine lv_iconst (v := 2) hx hb d_M_anew_29 (by decide) ?_
  refine q_put (ty := .int) 0 0 (ws1 := [((am 0), .inr (8, [.int 2, .ref (am 1), .ref (am 2), .ref (am 3), .ref (am 4), .ref (am 5), .long bu, .long he, .ref (am 6), .ref (am 7)])), ((am 1), .inl (ct 1, 334, .inr (.inl S)))]) t_M i_M t_M_ok n_M rfl hx hb hts hown hE hP hD hS rfl (by decide) x_936 rfl (by decide +kernel) (rfl) rfl (Nat.le_of_ble_eq_true rfl) rfl d_M_anew_30 (fun H locs hP hD hS => ?_)
  refine lv_aload_n hx hb d_M_anew_33 rfl (lv_at hl 0 rfl) ?_
  refine q_get 0 0 i_M rfl hx hb hts hown hE hP rfl (by decide) x_936 rfl d_M_anew_34 ?_
  refine lv_if_le (tgt := 44) hx hb d_M_anew_37 (by decide) (fun h => absurd h (by decide)) (fun _ => ?_)
  refine lv_iconst (v := 0) hx hb d_M_anew_40 (by decide) ?_
  refine lv_goto (tgt := 59) hx hb d_M_anew_41 (by decide) ?_
  exact rW_i hx hb hr hlk hAe hS hP hD (Nat.le_of_ble_eq_true rfl) (Nat.le_of_ble_eq_true rfl) d_M_anew_59 ⟨rfl, rfl, trivial⟩
set_option maxHeartbeats 4000000 in
set_option maxRecDepth 100000 in
theorem c_M_probe_b1 (l : Launch) (D : va_G) (ct : Nat → ClassId) (st : Nat → Nat) (am : Nat → Nat) (th : Int32) (bu : Int64) (he : Int64) (S : Nat → Int64) (a0 : Int32) (a1 : Int32) (hb0 : ¬ w_in a0.toInt64 0 (S 4 - 1)) (sz : Nat) : Met l y_M_probe (wsy y_M_probe b_M_probe 3 (some .int)) (rmW 2 0 0 46) (PcW D ct st [.ref (am 0), .int a0, .int a1] [((am 0), .inr (8, [.int th, .ref (am 1), .ref (am 2), .ref (am 3), .ref (am 4), .ref (am 5), .long bu, .long he, .ref (am 6), .ref (am 7)])), ((am 1), .inl (ct 1, 334, .inr (.inl S)))] sz) (QcW D [((am 0), .inr (8, [.int th, .ref (am 1), .ref (am 2), .ref (am 3), .ref (am 4), .ref (am 5), .long bu, .long he, .ref (am 6), .ref (am 7)])), ((am 1), .inl (ct 1, 334, .inr (.inl S)))] sz (fun v W1 => v = some (.int 0) ∧ W1 = [((am 0), .inr (8, [.int 1, .ref (am 1), .ref (am 2), .ref (am 3), .ref (am 4), .ref (am 5), .long bu, .long he, .ref (am 6), .ref (am 7)])), ((am 1), .inl (ct 1, 334, .inr (.inl S)))] ∧ (True))) 0 0 (va_A [((am 0), .inr (8, [.int th, .ref (am 1), .ref (am 2), .ref (am 3), .ref (am 4), .ref (am 5), .long bu, .long he, .ref (am 6), .ref (am 7)])), ((am 1), .inl (ct 1, 334, .inr (.inl S)))] sz) := by
  refine enterW (by decide) (Nat.le_of_ble_eq_true rfl) ?_
  intro p e s m args below meth c ls A hx hb hr hml hown hts hlk hin hsz hAe hP hD hA hE hV hS hl
  have hl : lv_has ls 3 [(0, .ref (am 0)), (1, .int a0), (2, .int a1)] := hl
  refine lv_aload_n hx hb d_M_probe_0 rfl (lv_at hl 0 rfl) ?_
  refine lv_aload_n hx hb d_M_probe_1 rfl (lv_at hl 0 rfl) ?_
  refine lv_iload_n hx hb d_M_probe_2 rfl (lv_at hl 1 rfl) ?_
  refine cRV (As := [.int a0]) (rest := [.ref (am 0)]) (q9 := 0) (ci := 8) K_M_isCell x_989 hx hb hml hown hts hE hV hS (c_M_isCell l D ct st am th bu he S a0) hP rfl hP rfl rfl hl.1 rfl (Nat.le_of_ble_eq_true rfl) d_M_probe_3 (Nat.le_of_ble_eq_true rfl) (Nat.le_of_ble_eq_true rfl) ⟨Nat.le_of_ble_eq_true rfl, Nat.le_of_ble_eq_true rfl⟩ ?_
  refine q_ifne_b (tgt := 13) hx hb d_M_probe_6 (by decide) (fun h_6 => absurd h_6 hb0) (fun h_6 => ?_)
  refine lv_iconst (v := 1) hx hb d_M_probe_9 (by decide) ?_
  refine lv_goto (tgt := 28) hx hb d_M_probe_10 (by decide) ?_
  refine q_put (ty := .int) 0 0 (ws1 := [((am 0), .inr (8, [.int 1, .ref (am 1), .ref (am 2), .ref (am 3), .ref (am 4), .ref (am 5), .long bu, .long he, .ref (am 6), .ref (am 7)])), ((am 1), .inl (ct 1, 334, .inr (.inl S)))]) t_M i_M t_M_ok n_M rfl hx hb hts hown hE hP hD hS rfl (by decide) x_936 rfl (by decide +kernel) (rfl) rfl (Nat.le_of_ble_eq_true rfl) rfl d_M_probe_28 (fun H locs hP hD hS => ?_)
  refine lv_aload_n hx hb d_M_probe_31 rfl (lv_at hl 0 rfl) ?_
  refine q_get 0 0 i_M rfl hx hb hts hown hE hP rfl (by decide) x_936 rfl d_M_probe_32 ?_
  refine lv_if_le (tgt := 42) hx hb d_M_probe_35 (by decide) (fun h => absurd h (by decide)) (fun _ => ?_)
  refine lv_iconst (v := 0) hx hb d_M_probe_38 (by decide) ?_
  refine lv_goto (tgt := 72) hx hb d_M_probe_39 (by decide) ?_
  exact rW_i hx hb hr hlk hAe hS hP hD (Nat.le_of_ble_eq_true rfl) (Nat.le_of_ble_eq_true rfl) d_M_probe_72 ⟨rfl, rfl, trivial⟩
set_option maxHeartbeats 4000000 in
set_option maxRecDepth 100000 in
theorem c_M_probe_b2 (l : Launch) (D : va_G) (ct : Nat → ClassId) (st : Nat → Nat) (am : Nat → Nat) (th : Int32) (bu : Int64) (he : Int64) (S : Nat → Int64) (a0 : Int32) (a1 : Int32) (hb1 : w_in a0.toInt64 0 (S 4 - 1)) (hb0 : ¬ w_in a1.toInt64 0 1) (sz : Nat) : Met l y_M_probe (wsy y_M_probe b_M_probe 3 (some .int)) (rmW 2 0 0 46) (PcW D ct st [.ref (am 0), .int a0, .int a1] [((am 0), .inr (8, [.int th, .ref (am 1), .ref (am 2), .ref (am 3), .ref (am 4), .ref (am 5), .long bu, .long he, .ref (am 6), .ref (am 7)])), ((am 1), .inl (ct 1, 334, .inr (.inl S)))] sz) (QcW D [((am 0), .inr (8, [.int th, .ref (am 1), .ref (am 2), .ref (am 3), .ref (am 4), .ref (am 5), .long bu, .long he, .ref (am 6), .ref (am 7)])), ((am 1), .inl (ct 1, 334, .inr (.inl S)))] sz (fun v W1 => v = some (.int 0) ∧ W1 = [((am 0), .inr (8, [.int 2, .ref (am 1), .ref (am 2), .ref (am 3), .ref (am 4), .ref (am 5), .long bu, .long he, .ref (am 6), .ref (am 7)])), ((am 1), .inl (ct 1, 334, .inr (.inl S)))] ∧ (True))) 0 0 (va_A [((am 0), .inr (8, [.int th, .ref (am 1), .ref (am 2), .ref (am 3), .ref (am 4), .ref (am 5), .long bu, .long he, .ref (am 6), .ref (am 7)])), ((am 1), .inl (ct 1, 334, .inr (.inl S)))] sz) := by
  refine enterW (by decide) (Nat.le_of_ble_eq_true rfl) ?_
  intro p e s m args below meth c ls A hx hb hr hml hown hts hlk hin hsz hAe hP hD hA hE hV hS hl
  have hl : lv_has ls 3 [(0, .ref (am 0)), (1, .int a0), (2, .int a1)] := hl
  refine lv_aload_n hx hb d_M_probe_0 rfl (lv_at hl 0 rfl) ?_
  refine lv_aload_n hx hb d_M_probe_1 rfl (lv_at hl 0 rfl) ?_
  refine lv_iload_n hx hb d_M_probe_2 rfl (lv_at hl 1 rfl) ?_
  refine cRV (As := [.int a0]) (rest := [.ref (am 0)]) (q9 := 0) (ci := 8) K_M_isCell x_989 hx hb hml hown hts hE hV hS (c_M_isCell l D ct st am th bu he S a0) hP rfl hP rfl rfl hl.1 rfl (Nat.le_of_ble_eq_true rfl) d_M_probe_3 (Nat.le_of_ble_eq_true rfl) (Nat.le_of_ble_eq_true rfl) ⟨Nat.le_of_ble_eq_true rfl, Nat.le_of_ble_eq_true rfl⟩ ?_
  refine q_ifne_b (tgt := 13) hx hb d_M_probe_6 (by decide) (fun h_6 => ?_) (fun h_6 => absurd hb1 h_6)
  refine lv_iload_n hx hb d_M_probe_13 rfl (lv_at hl 2 rfl) ?_
  refine lv_i2l hx hb d_M_probe_14 rfl ?_
  refine lv_lconst (v := 0) hx hb d_M_probe_15 (by decide) ?_
  refine lv_lconst (v := 1) hx hb d_M_probe_16 (by decide) ?_
  refine cRS (As := [.long a1.toInt64, .long 0, .long 1]) (rest := [.ref (am 0)]) K_M_in x_978 hx hb hml hown hts hE hV hS (c_M_in l D ct st a1.toInt64 0 1) (fun k q h => by simp at h) rfl hl.1 rfl (Nat.le_of_ble_eq_true rfl) d_M_probe_17 (Nat.le_of_ble_eq_true rfl) (Nat.le_of_ble_eq_true rfl) ⟨Nat.le_of_ble_eq_true rfl, Nat.le_of_ble_eq_true rfl⟩ ?_
  refine q_ifeq_b (tgt := 27) hx hb d_M_probe_20 (by decide) (fun h_20 => ?_) (fun h_20 => absurd h_20 hb0)
  refine lv_iconst (v := 2) hx hb d_M_probe_27 (by decide) ?_
  refine q_put (ty := .int) 0 0 (ws1 := [((am 0), .inr (8, [.int 2, .ref (am 1), .ref (am 2), .ref (am 3), .ref (am 4), .ref (am 5), .long bu, .long he, .ref (am 6), .ref (am 7)])), ((am 1), .inl (ct 1, 334, .inr (.inl S)))]) t_M i_M t_M_ok n_M rfl hx hb hts hown hE hP hD hS rfl (by decide) x_936 rfl (by decide +kernel) (rfl) rfl (Nat.le_of_ble_eq_true rfl) rfl d_M_probe_28 (fun H locs hP hD hS => ?_)
  refine lv_aload_n hx hb d_M_probe_31 rfl (lv_at hl 0 rfl) ?_
  refine q_get 0 0 i_M rfl hx hb hts hown hE hP rfl (by decide) x_936 rfl d_M_probe_32 ?_
  refine lv_if_le (tgt := 42) hx hb d_M_probe_35 (by decide) (fun h => absurd h (by decide)) (fun _ => ?_)
  refine lv_iconst (v := 0) hx hb d_M_probe_38 (by decide) ?_
  refine lv_goto (tgt := 72) hx hb d_M_probe_39 (by decide) ?_
  exact rW_i hx hb hr hlk hAe hS hP hD (Nat.le_of_ble_eq_true rfl) (Nat.le_of_ble_eq_true rfl) d_M_probe_72 ⟨rfl, rfl, trivial⟩
set_option maxHeartbeats 4000000 in
set_option maxRecDepth 100000 in
theorem c_M_came_bad (l : Launch) (D : va_G) (ct : Nat → ClassId) (st : Nat → Nat) (am : Nat → Nat) (th : Int32) (bu : Int64) (he : Int64) (S : Nat → Int64) (a0 : Int32) (hb0 : ¬ w_in a0.toInt64 0 5) (sz : Nat) : Met l y_M_came (wsy y_M_came b_M_came 2 (some .long)) (rmW 1 0 0 25) (PcW D ct st [.ref (am 0), .int a0] [((am 0), .inr (8, [.int th, .ref (am 1), .ref (am 2), .ref (am 3), .ref (am 4), .ref (am 5), .long bu, .long he, .ref (am 6), .ref (am 7)])), ((am 1), .inl (ct 1, 334, .inr (.inl S)))] sz) (QcW D [((am 0), .inr (8, [.int th, .ref (am 1), .ref (am 2), .ref (am 3), .ref (am 4), .ref (am 5), .long bu, .long he, .ref (am 6), .ref (am 7)])), ((am 1), .inl (ct 1, 334, .inr (.inl S)))] sz (fun v W1 => v = some (.long 0) ∧ W1 = [((am 0), .inr (8, [.int 1, .ref (am 1), .ref (am 2), .ref (am 3), .ref (am 4), .ref (am 5), .long bu, .long he, .ref (am 6), .ref (am 7)])), ((am 1), .inl (ct 1, 334, .inr (.inl S)))] ∧ (True))) 0 0 (va_A [((am 0), .inr (8, [.int th, .ref (am 1), .ref (am 2), .ref (am 3), .ref (am 4), .ref (am 5), .long bu, .long he, .ref (am 6), .ref (am 7)])), ((am 1), .inl (ct 1, 334, .inr (.inl S)))] sz) := by
  refine enterW (by decide) (Nat.le_of_ble_eq_true rfl) ?_
  intro p e s m args below meth c ls A hx hb hr hml hown hts hlk hin hsz hAe hP hD hA hE hV hS hl
  have hl : lv_has ls 2 [(0, .ref (am 0)), (1, .int a0)] := hl
  refine lv_aload_n hx hb d_M_came_0 rfl (lv_at hl 0 rfl) ?_
  refine lv_iload_n hx hb d_M_came_1 rfl (lv_at hl 1 rfl) ?_
  refine lv_i2l hx hb d_M_came_2 rfl ?_
  refine lv_lconst (v := 0) hx hb d_M_came_3 (by decide) ?_
  refine lv_ldc2 (v := 5) hx hb hown (hts _ (List.mem_cons_of_mem _ x_1043)) d_M_came_4 ?_
  refine cRS (As := [.long a0.toInt64, .long 0, .long 5]) (rest := [.ref (am 0)]) K_M_in x_978 hx hb hml hown hts hE hV hS (c_M_in l D ct st a0.toInt64 0 5) (fun k q h => by simp at h) rfl hl.1 rfl (Nat.le_of_ble_eq_true rfl) d_M_came_7 (Nat.le_of_ble_eq_true rfl) (Nat.le_of_ble_eq_true rfl) ⟨Nat.le_of_ble_eq_true rfl, Nat.le_of_ble_eq_true rfl⟩ ?_
  refine q_ifeq_b (tgt := 17) hx hb d_M_came_10 (by decide) (fun h_10 => ?_) (fun h_10 => absurd h_10 hb0)
  refine lv_iconst (v := 1) hx hb d_M_came_17 (by decide) ?_
  refine q_put (ty := .int) 0 0 (ws1 := [((am 0), .inr (8, [.int 1, .ref (am 1), .ref (am 2), .ref (am 3), .ref (am 4), .ref (am 5), .long bu, .long he, .ref (am 6), .ref (am 7)])), ((am 1), .inl (ct 1, 334, .inr (.inl S)))]) t_M i_M t_M_ok n_M rfl hx hb hts hown hE hP hD hS rfl (by decide) x_936 rfl (by decide +kernel) (rfl) rfl (Nat.le_of_ble_eq_true rfl) rfl d_M_came_18 (fun H locs hP hD hS => ?_)
  refine lv_aload_n hx hb d_M_came_21 rfl (lv_at hl 0 rfl) ?_
  refine q_get 0 0 i_M rfl hx hb hts hown hE hP rfl (by decide) x_936 rfl d_M_came_22 ?_
  refine lv_if_le (tgt := 32) hx hb d_M_came_25 (by decide) (fun h => absurd h (by decide)) (fun _ => ?_)
  refine lv_lconst (v := 0) hx hb d_M_came_28 (by decide) ?_
  refine lv_goto (tgt := 42) hx hb d_M_came_29 (by decide) ?_
  exact rW_l hx hb hr hlk hAe hS hP hD (Nat.le_of_ble_eq_true rfl) (Nat.le_of_ble_eq_true rfl) d_M_came_42 ⟨rfl, rfl, trivial⟩
set_option maxHeartbeats 4000000 in
set_option maxRecDepth 100000 in
theorem c_M_isKept_0 (l : Launch) (D : va_G) (ct : Nat → ClassId) (st : Nat → Nat) (am : Nat → Nat) (th : Int32) (bu : Int64) (he : Int64) (S : Nat → Int64) (n : Nat) (hS4 : S 4 = lN n) (hn : n ≤ 32) (sz : Nat) : Met l y_M_isKept (wsy y_M_isKept b_M_isKept 5 (some .boolean)) (rmW 1 0 0 25) (PcW D ct st [.ref (am 0), .int 0] [((am 0), .inr (8, [.int th, .ref (am 1), .ref (am 2), .ref (am 3), .ref (am 4), .ref (am 5), .long bu, .long he, .ref (am 6), .ref (am 7)])), ((am 1), .inl (ct 1, 334, .inr (.inl S)))] sz) (QcW D [((am 0), .inr (8, [.int th, .ref (am 1), .ref (am 2), .ref (am 3), .ref (am 4), .ref (am 5), .long bu, .long he, .ref (am 6), .ref (am 7)])), ((am 1), .inl (ct 1, 334, .inr (.inl S)))] sz (fun v W1 => v = some (.int (bI ((S 142 + S 136 + 0) = w_sum (fun c9 => S (8 + c9)) n))) ∧ W1 = [((am 0), .inr (8, [.int 0, .ref (am 1), .ref (am 2), .ref (am 3), .ref (am 4), .ref (am 5), .long bu, .long he, .ref (am 6), .ref (am 7)])), ((am 1), .inl (ct 1, 334, .inr (.inl S)))] ∧ (True))) 0 0 (va_A [((am 0), .inr (8, [.int th, .ref (am 1), .ref (am 2), .ref (am 3), .ref (am 4), .ref (am 5), .long bu, .long he, .ref (am 6), .ref (am 7)])), ((am 1), .inl (ct 1, 334, .inr (.inl S)))] sz) := by
  refine enterW (by decide) (Nat.le_of_ble_eq_true rfl) ?_
  intro p e s m args below meth c ls A hx hb hr hml hown hts hlk hin hsz hAe hP hD hA hE hV hS hl
  have hl : lv_has ls 5 [(0, .ref (am 0)), (1, .int 0)] := hl
  refine lv_aload_n hx hb d_M_isKept_0 rfl (lv_at hl 0 rfl) ?_
  refine lv_iload_n hx hb d_M_isKept_1 rfl (lv_at hl 1 rfl) ?_
  refine lv_i2l (v := 0) hx hb d_M_isKept_2 (by decide) ?_
  refine lv_lconst (v := 0) hx hb d_M_isKept_3 (by decide) ?_
  refine lv_ldc2 (v := 3) hx hb hown (hts _ (List.mem_cons_of_mem _ x_1045)) d_M_isKept_4 ?_
  refine cRS (As := [.long 0, .long 0, .long 3]) (rest := [.ref (am 0)]) K_M_in x_978 hx hb hml hown hts hE hV hS (c_M_in l D ct st 0 0 3) (fun k q h => by simp at h) rfl hl.1 rfl (Nat.le_of_ble_eq_true rfl) d_M_isKept_7 (Nat.le_of_ble_eq_true rfl) (Nat.le_of_ble_eq_true rfl) ⟨Nat.le_of_ble_eq_true rfl, Nat.le_of_ble_eq_true rfl⟩ ?_
  refine q_ifeq_b (tgt := 17) hx hb d_M_isKept_10 (by decide) (fun h_10 => absurd (w_inN (a := 0) (lo := 0) (hi := 3) (by omega) (by omega) (by omega)) h_10) (fun h_10 => ?_)
  refine lv_iconst (v := 0) hx hb d_M_isKept_13 (by decide) ?_
  refine lv_goto (tgt := 18) hx hb d_M_isKept_14 (by decide) ?_
  refine q_put (ty := .int) 0 0 (ws1 := [((am 0), .inr (8, [.int 0, .ref (am 1), .ref (am 2), .ref (am 3), .ref (am 4), .ref (am 5), .long bu, .long he, .ref (am 6), .ref (am 7)])), ((am 1), .inl (ct 1, 334, .inr (.inl S)))]) t_M i_M t_M_ok n_M rfl hx hb hts hown hE hP hD hS rfl (by decide) x_936 rfl (by decide +kernel) (rfl) rfl (Nat.le_of_ble_eq_true rfl) rfl d_M_isKept_18 (fun H locs hP hD hS => ?_)
  refine lv_aload_n hx hb d_M_isKept_21 rfl (lv_at hl 0 rfl) ?_
  refine q_get 0 0 i_M rfl hx hb hts hown hE hP rfl (by decide) x_936 rfl d_M_isKept_22 ?_
  refine lv_if_le (tgt := 30) hx hb d_M_isKept_25 (by decide) (fun _ => ?_) (fun h => absurd h (by decide))
  refine lv_aload_n hx hb d_M_isKept_30 rfl (lv_at hl 0 rfl) ?_
  refine q_get 0 1 i_M rfl hx hb hts hown hE hP rfl (by decide) x_937 rfl d_M_isKept_31 ?_
  refine lv_sipush (v := 142) hx hb d_M_isKept_34 (by decide) ?_
  refine lv_iload_n hx hb d_M_isKept_37 rfl (lv_at hl 1 rfl) ?_
  refine q_iadd (v := 142) hx hb d_M_isKept_38 (by decide) ?_
  refine q_lald (k := 142) 1 hx hb hE hP rfl rfl (by omega) (by decide) d_M_isKept_39 ?_
  refine lv_aload_n hx hb d_M_isKept_40 rfl (lv_at hl 0 rfl) ?_
  refine q_get 0 1 i_M rfl hx hb hts hown hE hP rfl (by decide) x_937 rfl d_M_isKept_41 ?_
  refine lv_sipush (v := 136) hx hb d_M_isKept_44 (by decide) ?_
  refine lv_iload_n hx hb d_M_isKept_47 rfl (lv_at hl 1 rfl) ?_
  refine q_iadd (v := 136) hx hb d_M_isKept_48 (by decide) ?_
  refine q_lald (k := 136) 1 hx hb hE hP rfl rfl (by omega) (by decide) d_M_isKept_49 ?_
  refine lv_ladd hx hb d_M_isKept_50 ?_
  refine lv_iload_n hx hb d_M_isKept_51 rfl (lv_at hl 1 rfl) ?_
  refine lv_iconst (v := 2) hx hb d_M_isKept_52 (by decide) ?_
  refine lv_icmp_ne (tgt := 67) hx hb d_M_isKept_53 (by decide) (fun _ => ?_) (fun h => absurd h (by decide))
  refine lv_iload_n hx hb d_M_isKept_67 rfl (lv_at hl 1 rfl) ?_
  refine lv_iconst (v := 3) hx hb d_M_isKept_68 (by decide) ?_
  refine lv_icmp_ne (tgt := 84) hx hb d_M_isKept_69 (by decide) (fun _ => ?_) (fun h => absurd h (by decide))
  refine lv_lconst (v := 0) hx hb d_M_isKept_84 (by decide) ?_
  refine lv_ladd hx hb d_M_isKept_85 ?_
  refine lv_lstore_n (lv' := [(2, .long (((S 142) + (S 136)) + 0)), (0, .ref (am 0)), (1, .int 0)]) hx hb d_M_isKept_86 rfl hl (by decide) rfl (fun ls hl => ?_)
  refine lv_iconst (v := 0) hx hb d_M_isKept_87 (by decide) ?_
  refine lv_istore (lv' := [(4, .int 0), (2, .long (((S 142) + (S 136)) + 0)), (0, .ref (am 0)), (1, .int 0)]) hx hb d_M_isKept_88 hl (by decide) rfl (fun ls hl => ?_)
  have loop_90 : ∀ (n9 : Nat) (i : Nat) (du : Int64) (hi : i ≤ n) (hdu : du = (S 142 + S 136 + 0) - w_sum (fun c9 => S (8 + c9)) i) (hn9 : n - i < n9) (H : Heap) (locs : List Loc) (ls : Array Slot), va_P D classes [((am 0), .inr (8, [.int 0, .ref (am 1), .ref (am 2), .ref (am 3), .ref (am 4), .ref (am 5), .long bu, .long he, .ref (am 6), .ref (am 7)])), ((am 1), .inl (ct 1, 334, .inr (.inl S)))] H → va_D A [((am 0), .inr (8, [.int 0, .ref (am 1), .ref (am 2), .ref (am 3), .ref (am 4), .ref (am 5), .long bu, .long he, .ref (am 6), .ref (am 7)])), ((am 1), .inl (ct 1, 334, .inr (.inl S)))] → va_S A s.heap H locs → lv_has ls 5 [(0, .ref (am 0)), (1, .int 0), (2, .long du), (4, .int (nI i))] → W p l e (rmW 1 0 0 25) s m args below meth c H locs (0) (0) (MQ below (QcW D [((am 0), .inr (8, [.int th, .ref (am 1), .ref (am 2), .ref (am 3), .ref (am 4), .ref (am 5), .long bu, .long he, .ref (am 6), .ref (am 7)])), ((am 1), .inl (ct 1, 334, .inr (.inl S)))] sz (fun v W1 => v = some (.int (bI ((S 142 + S 136 + 0) = w_sum (fun c9 => S (8 + c9)) n))) ∧ W1 = [((am 0), .inr (8, [.int 0, .ref (am 1), .ref (am 2), .ref (am 3), .ref (am 4), .ref (am 5), .long bu, .long he, .ref (am 6), .ref (am 7)])), ((am 1), .inl (ct 1, 334, .inr (.inl S)))] ∧ (True))) args s 0 0 A) (F0 m 90 ls []) := by
    intro n9
    induction n9 with
    | zero => intro i du hi hdu hn9 H locs ls hP hD hS hl; exact absurd hn9 (Nat.not_lt_zero _)
    | succ n9 ih_90 =>
      intro i du hi hdu hn9 H locs ls hP hD hS hl
      refine lv_iload hx hb d_M_isKept_90 (lv_at hl 3 rfl) ?_
      refine lv_i2l (v := lN i) hx hb d_M_isKept_92 (nI_l (by omega)) ?_
      refine lv_aload_n hx hb d_M_isKept_93 rfl (lv_at hl 0 rfl) ?_
      refine q_get 0 1 i_M rfl hx hb hts hown hE hP rfl (by decide) x_937 rfl d_M_isKept_94 ?_
      refine lv_iconst (v := 4) hx hb d_M_isKept_97 (by decide) ?_
      refine q_lald (k := 4) 1 hx hb hE hP rfl rfl (by omega) (by decide) d_M_isKept_98 ?_
      refine q_topl (v := lN n) (hS4) ?_
      refine W.lcmp hx hb d_M_isKept_99 ?_
      refine q_cmp_ge (tgt := 127) hx hb d_M_isKept_100 (by decide) (fun h_100 => ?_) (fun h_100 => ?_)
      · have hin9 : i = n := by rw [lN_le (by omega) (by omega)] at h_100; omega
        refine lv_lload_n hx hb d_M_isKept_127 rfl (lv_at hl 2 rfl) ?_
        refine lv_lconst (v := 0) hx hb d_M_isKept_128 (by decide) ?_
        refine W.lcmp hx hb d_M_isKept_129 ?_
        refine q_cmp_ne (tgt := 137) hx hb d_M_isKept_130 (by decide) (fun h_130 => ?_) (fun h_130 => ?_)
        · refine lv_iconst (v := 0) hx hb d_M_isKept_137 (by decide) ?_
          exact rW_z (P := (S 142 + S 136 + 0) = w_sum (fun c9 => S (8 + c9)) n) hx hb hr hlk hAe hS hP hD (Nat.le_of_ble_eq_true rfl) (Nat.le_of_ble_eq_true rfl) d_M_isKept_138 (bI_0 (by rw [hdu, hin9] at h_130; first | exact eq_sub9 h_130 | exact fun z => h_130 (by rw [z, Int64.sub_self]))) ⟨rfl, rfl, trivial⟩
        · refine lv_iconst (v := 1) hx hb d_M_isKept_133 (by decide) ?_
          refine lv_goto (tgt := 138) hx hb d_M_isKept_134 (by decide) ?_
          exact rW_z (P := (S 142 + S 136 + 0) = w_sum (fun c9 => S (8 + c9)) n) hx hb hr hlk hAe hS hP hD (Nat.le_of_ble_eq_true rfl) (Nat.le_of_ble_eq_true rfl) d_M_isKept_138 (bI_1 (by rw [hdu, hin9] at h_130; first | exact eq_sub9 h_130 | exact fun z => h_130 (by rw [z, Int64.sub_self]))) ⟨rfl, rfl, trivial⟩
      · have hin9 : i < n := by rw [lN_le (by omega) (by omega)] at h_100; omega
        refine lv_lload_n hx hb d_M_isKept_103 rfl (lv_at hl 2 rfl) ?_
        refine lv_aload_n hx hb d_M_isKept_104 rfl (lv_at hl 0 rfl) ?_
        refine q_get 0 1 i_M rfl hx hb hts hown hE hP rfl (by decide) x_937 rfl d_M_isKept_105 ?_
        refine lv_bipush (v := 8) hx hb d_M_isKept_108 (by decide) ?_
        refine lv_bipush (v := 32) hx hb d_M_isKept_110 (by decide) ?_
        refine lv_iload_n hx hb d_M_isKept_112 rfl (lv_at hl 1 rfl) ?_
        refine q_imul (v := 0) hx hb d_M_isKept_113 (by decide) ?_
        refine q_iadd (v := 8) hx hb d_M_isKept_114 (by decide) ?_
        refine lv_iload hx hb d_M_isKept_115 (lv_at hl 3 rfl) ?_
        refine q_iadd (v := nI (8 + i)) hx hb d_M_isKept_117 (nI_add 8 i) ?_
        refine q_lald (k := 8 + i) 1 hx hb hE hP rfl rfl (by omega) (by decide) d_M_isKept_118 ?_
        refine lv_lsub hx hb d_M_isKept_119 ?_
        refine lv_lstore_n (lv' := [(2, .long (du - (S (8 + i)))), (0, .ref (am 0)), (1, .int 0), (4, .int (nI i))]) hx hb d_M_isKept_120 rfl hl (by decide) rfl (fun ls hl => ?_)
        refine lv_iinc (v := (nI (i + 1))) (lv' := [(4, .int (nI (i + 1))), (2, .long (du - (S (8 + i)))), (0, .ref (am 0)), (1, .int 0)]) hx hb d_M_isKept_121 hl (k := 3) rfl (nI_1 _) (by decide) rfl (fun ls hl => ?_)
        refine lv_goto (tgt := 90) hx hb d_M_isKept_124 (by decide) ?_
        exact ih_90 (i + 1) (du - (S (8 + i))) (by omega) (by rw [hdu, show w_sum (fun c9 => S (8 + c9)) (i + 1) = w_sum (fun c9 => S (8 + c9)) i + S (8 + i) from rfl, sub_add9]) (by omega) _ _ _ hP hD hS (lv_sub hl [2, 3, 1, 0] rfl)
  exact loop_90 _ 0 (((S 142) + (S 136)) + 0) (by omega) ((Int64.sub_zero _).symm) (Nat.lt_succ_self _) _ _ _ hP hD hS (lv_sub hl [2, 3, 1, 0] rfl)
set_option maxHeartbeats 4000000 in
set_option maxRecDepth 100000 in
theorem c_M_isKept_1 (l : Launch) (D : va_G) (ct : Nat → ClassId) (st : Nat → Nat) (am : Nat → Nat) (th : Int32) (bu : Int64) (he : Int64) (S : Nat → Int64) (n : Nat) (hS4 : S 4 = lN n) (hn : n ≤ 32) (sz : Nat) : Met l y_M_isKept (wsy y_M_isKept b_M_isKept 5 (some .boolean)) (rmW 1 0 0 25) (PcW D ct st [.ref (am 0), .int 1] [((am 0), .inr (8, [.int th, .ref (am 1), .ref (am 2), .ref (am 3), .ref (am 4), .ref (am 5), .long bu, .long he, .ref (am 6), .ref (am 7)])), ((am 1), .inl (ct 1, 334, .inr (.inl S)))] sz) (QcW D [((am 0), .inr (8, [.int th, .ref (am 1), .ref (am 2), .ref (am 3), .ref (am 4), .ref (am 5), .long bu, .long he, .ref (am 6), .ref (am 7)])), ((am 1), .inl (ct 1, 334, .inr (.inl S)))] sz (fun v W1 => v = some (.int (bI ((S 143 + S 137 + 0) = w_sum (fun c9 => S (40 + c9)) n))) ∧ W1 = [((am 0), .inr (8, [.int 0, .ref (am 1), .ref (am 2), .ref (am 3), .ref (am 4), .ref (am 5), .long bu, .long he, .ref (am 6), .ref (am 7)])), ((am 1), .inl (ct 1, 334, .inr (.inl S)))] ∧ (True))) 0 0 (va_A [((am 0), .inr (8, [.int th, .ref (am 1), .ref (am 2), .ref (am 3), .ref (am 4), .ref (am 5), .long bu, .long he, .ref (am 6), .ref (am 7)])), ((am 1), .inl (ct 1, 334, .inr (.inl S)))] sz) := by
  refine enterW (by decide) (Nat.le_of_ble_eq_true rfl) ?_
  intro p e s m args below meth c ls A hx hb hr hml hown hts hlk hin hsz hAe hP hD hA hE hV hS hl
  have hl : lv_has ls 5 [(0, .ref (am 0)), (1, .int 1)] := hl
  refine lv_aload_n hx hb d_M_isKept_0 rfl (lv_at hl 0 rfl) ?_
  refine lv_iload_n hx hb d_M_isKept_1 rfl (lv_at hl 1 rfl) ?_
  refine lv_i2l (v := 1) hx hb d_M_isKept_2 (by decide) ?_
  refine lv_lconst (v := 0) hx hb d_M_isKept_3 (by decide) ?_
  refine lv_ldc2 (v := 3) hx hb hown (hts _ (List.mem_cons_of_mem _ x_1045)) d_M_isKept_4 ?_
  refine cRS (As := [.long 1, .long 0, .long 3]) (rest := [.ref (am 0)]) K_M_in x_978 hx hb hml hown hts hE hV hS (c_M_in l D ct st 1 0 3) (fun k q h => by simp at h) rfl hl.1 rfl (Nat.le_of_ble_eq_true rfl) d_M_isKept_7 (Nat.le_of_ble_eq_true rfl) (Nat.le_of_ble_eq_true rfl) ⟨Nat.le_of_ble_eq_true rfl, Nat.le_of_ble_eq_true rfl⟩ ?_
  refine q_ifeq_b (tgt := 17) hx hb d_M_isKept_10 (by decide) (fun h_10 => absurd (w_inN (a := 1) (lo := 0) (hi := 3) (by omega) (by omega) (by omega)) h_10) (fun h_10 => ?_)
  refine lv_iconst (v := 0) hx hb d_M_isKept_13 (by decide) ?_
  refine lv_goto (tgt := 18) hx hb d_M_isKept_14 (by decide) ?_
  refine q_put (ty := .int) 0 0 (ws1 := [((am 0), .inr (8, [.int 0, .ref (am 1), .ref (am 2), .ref (am 3), .ref (am 4), .ref (am 5), .long bu, .long he, .ref (am 6), .ref (am 7)])), ((am 1), .inl (ct 1, 334, .inr (.inl S)))]) t_M i_M t_M_ok n_M rfl hx hb hts hown hE hP hD hS rfl (by decide) x_936 rfl (by decide +kernel) (rfl) rfl (Nat.le_of_ble_eq_true rfl) rfl d_M_isKept_18 (fun H locs hP hD hS => ?_)
  refine lv_aload_n hx hb d_M_isKept_21 rfl (lv_at hl 0 rfl) ?_
  refine q_get 0 0 i_M rfl hx hb hts hown hE hP rfl (by decide) x_936 rfl d_M_isKept_22 ?_
  refine lv_if_le (tgt := 30) hx hb d_M_isKept_25 (by decide) (fun _ => ?_) (fun h => absurd h (by decide))
  refine lv_aload_n hx hb d_M_isKept_30 rfl (lv_at hl 0 rfl) ?_
  refine q_get 0 1 i_M rfl hx hb hts hown hE hP rfl (by decide) x_937 rfl d_M_isKept_31 ?_
  refine lv_sipush (v := 142) hx hb d_M_isKept_34 (by decide) ?_
  refine lv_iload_n hx hb d_M_isKept_37 rfl (lv_at hl 1 rfl) ?_
  refine q_iadd (v := 143) hx hb d_M_isKept_38 (by decide) ?_
  refine q_lald (k := 143) 1 hx hb hE hP rfl rfl (by omega) (by decide) d_M_isKept_39 ?_
  refine lv_aload_n hx hb d_M_isKept_40 rfl (lv_at hl 0 rfl) ?_
  refine q_get 0 1 i_M rfl hx hb hts hown hE hP rfl (by decide) x_937 rfl d_M_isKept_41 ?_
  refine lv_sipush (v := 136) hx hb d_M_isKept_44 (by decide) ?_
  refine lv_iload_n hx hb d_M_isKept_47 rfl (lv_at hl 1 rfl) ?_
  refine q_iadd (v := 137) hx hb d_M_isKept_48 (by decide) ?_
  refine q_lald (k := 137) 1 hx hb hE hP rfl rfl (by omega) (by decide) d_M_isKept_49 ?_
  refine lv_ladd hx hb d_M_isKept_50 ?_
  refine lv_iload_n hx hb d_M_isKept_51 rfl (lv_at hl 1 rfl) ?_
  refine lv_iconst (v := 2) hx hb d_M_isKept_52 (by decide) ?_
  refine lv_icmp_ne (tgt := 67) hx hb d_M_isKept_53 (by decide) (fun _ => ?_) (fun h => absurd h (by decide))
  refine lv_iload_n hx hb d_M_isKept_67 rfl (lv_at hl 1 rfl) ?_
  refine lv_iconst (v := 3) hx hb d_M_isKept_68 (by decide) ?_
  refine lv_icmp_ne (tgt := 84) hx hb d_M_isKept_69 (by decide) (fun _ => ?_) (fun h => absurd h (by decide))
  refine lv_lconst (v := 0) hx hb d_M_isKept_84 (by decide) ?_
  refine lv_ladd hx hb d_M_isKept_85 ?_
  refine lv_lstore_n (lv' := [(2, .long (((S 143) + (S 137)) + 0)), (0, .ref (am 0)), (1, .int 1)]) hx hb d_M_isKept_86 rfl hl (by decide) rfl (fun ls hl => ?_)
  refine lv_iconst (v := 0) hx hb d_M_isKept_87 (by decide) ?_
  refine lv_istore (lv' := [(4, .int 0), (2, .long (((S 143) + (S 137)) + 0)), (0, .ref (am 0)), (1, .int 1)]) hx hb d_M_isKept_88 hl (by decide) rfl (fun ls hl => ?_)
  have loop_90 : ∀ (n9 : Nat) (i : Nat) (du : Int64) (hi : i ≤ n) (hdu : du = (S 143 + S 137 + 0) - w_sum (fun c9 => S (40 + c9)) i) (hn9 : n - i < n9) (H : Heap) (locs : List Loc) (ls : Array Slot), va_P D classes [((am 0), .inr (8, [.int 0, .ref (am 1), .ref (am 2), .ref (am 3), .ref (am 4), .ref (am 5), .long bu, .long he, .ref (am 6), .ref (am 7)])), ((am 1), .inl (ct 1, 334, .inr (.inl S)))] H → va_D A [((am 0), .inr (8, [.int 0, .ref (am 1), .ref (am 2), .ref (am 3), .ref (am 4), .ref (am 5), .long bu, .long he, .ref (am 6), .ref (am 7)])), ((am 1), .inl (ct 1, 334, .inr (.inl S)))] → va_S A s.heap H locs → lv_has ls 5 [(0, .ref (am 0)), (1, .int 1), (2, .long du), (4, .int (nI i))] → W p l e (rmW 1 0 0 25) s m args below meth c H locs (0) (0) (MQ below (QcW D [((am 0), .inr (8, [.int th, .ref (am 1), .ref (am 2), .ref (am 3), .ref (am 4), .ref (am 5), .long bu, .long he, .ref (am 6), .ref (am 7)])), ((am 1), .inl (ct 1, 334, .inr (.inl S)))] sz (fun v W1 => v = some (.int (bI ((S 143 + S 137 + 0) = w_sum (fun c9 => S (40 + c9)) n))) ∧ W1 = [((am 0), .inr (8, [.int 0, .ref (am 1), .ref (am 2), .ref (am 3), .ref (am 4), .ref (am 5), .long bu, .long he, .ref (am 6), .ref (am 7)])), ((am 1), .inl (ct 1, 334, .inr (.inl S)))] ∧ (True))) args s 0 0 A) (F0 m 90 ls []) := by
    intro n9
    induction n9 with
    | zero => intro i du hi hdu hn9 H locs ls hP hD hS hl; exact absurd hn9 (Nat.not_lt_zero _)
    | succ n9 ih_90 =>
      intro i du hi hdu hn9 H locs ls hP hD hS hl
      refine lv_iload hx hb d_M_isKept_90 (lv_at hl 3 rfl) ?_
      refine lv_i2l (v := lN i) hx hb d_M_isKept_92 (nI_l (by omega)) ?_
      refine lv_aload_n hx hb d_M_isKept_93 rfl (lv_at hl 0 rfl) ?_
      refine q_get 0 1 i_M rfl hx hb hts hown hE hP rfl (by decide) x_937 rfl d_M_isKept_94 ?_
      refine lv_iconst (v := 4) hx hb d_M_isKept_97 (by decide) ?_
      refine q_lald (k := 4) 1 hx hb hE hP rfl rfl (by omega) (by decide) d_M_isKept_98 ?_
      refine q_topl (v := lN n) (hS4) ?_
      refine W.lcmp hx hb d_M_isKept_99 ?_
      refine q_cmp_ge (tgt := 127) hx hb d_M_isKept_100 (by decide) (fun h_100 => ?_) (fun h_100 => ?_)
      · have hin9 : i = n := by rw [lN_le (by omega) (by omega)] at h_100; omega
        refine lv_lload_n hx hb d_M_isKept_127 rfl (lv_at hl 2 rfl) ?_
        refine lv_lconst (v := 0) hx hb d_M_isKept_128 (by decide) ?_
        refine W.lcmp hx hb d_M_isKept_129 ?_
        refine q_cmp_ne (tgt := 137) hx hb d_M_isKept_130 (by decide) (fun h_130 => ?_) (fun h_130 => ?_)
        · refine lv_iconst (v := 0) hx hb d_M_isKept_137 (by decide) ?_
          exact rW_z (P := (S 143 + S 137 + 0) = w_sum (fun c9 => S (40 + c9)) n) hx hb hr hlk hAe hS hP hD (Nat.le_of_ble_eq_true rfl) (Nat.le_of_ble_eq_true rfl) d_M_isKept_138 (bI_0 (by rw [hdu, hin9] at h_130; first | exact eq_sub9 h_130 | exact fun z => h_130 (by rw [z, Int64.sub_self]))) ⟨rfl, rfl, trivial⟩
        · refine lv_iconst (v := 1) hx hb d_M_isKept_133 (by decide) ?_
          refine lv_goto (tgt := 138) hx hb d_M_isKept_134 (by decide) ?_
          exact rW_z (P := (S 143 + S 137 + 0) = w_sum (fun c9 => S (40 + c9)) n) hx hb hr hlk hAe hS hP hD (Nat.le_of_ble_eq_true rfl) (Nat.le_of_ble_eq_true rfl) d_M_isKept_138 (bI_1 (by rw [hdu, hin9] at h_130; first | exact eq_sub9 h_130 | exact fun z => h_130 (by rw [z, Int64.sub_self]))) ⟨rfl, rfl, trivial⟩
      · have hin9 : i < n := by rw [lN_le (by omega) (by omega)] at h_100; omega
        refine lv_lload_n hx hb d_M_isKept_103 rfl (lv_at hl 2 rfl) ?_
        refine lv_aload_n hx hb d_M_isKept_104 rfl (lv_at hl 0 rfl) ?_
        refine q_get 0 1 i_M rfl hx hb hts hown hE hP rfl (by decide) x_937 rfl d_M_isKept_105 ?_
        refine lv_bipush (v := 8) hx hb d_M_isKept_108 (by decide) ?_
        refine lv_bipush (v := 32) hx hb d_M_isKept_110 (by decide) ?_
        refine lv_iload_n hx hb d_M_isKept_112 rfl (lv_at hl 1 rfl) ?_
        refine q_imul (v := 32) hx hb d_M_isKept_113 (by decide) ?_
        refine q_iadd (v := 40) hx hb d_M_isKept_114 (by decide) ?_
        refine lv_iload hx hb d_M_isKept_115 (lv_at hl 3 rfl) ?_
        refine q_iadd (v := nI (40 + i)) hx hb d_M_isKept_117 (nI_add 40 i) ?_
        refine q_lald (k := 40 + i) 1 hx hb hE hP rfl rfl (by omega) (by decide) d_M_isKept_118 ?_
        refine lv_lsub hx hb d_M_isKept_119 ?_
        refine lv_lstore_n (lv' := [(2, .long (du - (S (40 + i)))), (0, .ref (am 0)), (1, .int 1), (4, .int (nI i))]) hx hb d_M_isKept_120 rfl hl (by decide) rfl (fun ls hl => ?_)
        refine lv_iinc (v := (nI (i + 1))) (lv' := [(4, .int (nI (i + 1))), (2, .long (du - (S (40 + i)))), (0, .ref (am 0)), (1, .int 1)]) hx hb d_M_isKept_121 hl (k := 3) rfl (nI_1 _) (by decide) rfl (fun ls hl => ?_)
        refine lv_goto (tgt := 90) hx hb d_M_isKept_124 (by decide) ?_
        exact ih_90 (i + 1) (du - (S (40 + i))) (by omega) (by rw [hdu, show w_sum (fun c9 => S (40 + c9)) (i + 1) = w_sum (fun c9 => S (40 + c9)) i + S (40 + i) from rfl, sub_add9]) (by omega) _ _ _ hP hD hS (lv_sub hl [2, 3, 1, 0] rfl)
  exact loop_90 _ 0 (((S 143) + (S 137)) + 0) (by omega) ((Int64.sub_zero _).symm) (Nat.lt_succ_self _) _ _ _ hP hD hS (lv_sub hl [2, 3, 1, 0] rfl)
set_option maxHeartbeats 4000000 in
set_option maxRecDepth 100000 in
theorem c_M_isKept_2 (l : Launch) (D : va_G) (ct : Nat → ClassId) (st : Nat → Nat) (am : Nat → Nat) (th : Int32) (bu : Int64) (he : Int64) (S : Nat → Int64) (n : Nat) (hS4 : S 4 = lN n) (hn : n ≤ 32) (sz : Nat) : Met l y_M_isKept (wsy y_M_isKept b_M_isKept 5 (some .boolean)) (rmW 1 0 0 25) (PcW D ct st [.ref (am 0), .int 2] [((am 0), .inr (8, [.int th, .ref (am 1), .ref (am 2), .ref (am 3), .ref (am 4), .ref (am 5), .long bu, .long he, .ref (am 6), .ref (am 7)])), ((am 1), .inl (ct 1, 334, .inr (.inl S)))] sz) (QcW D [((am 0), .inr (8, [.int th, .ref (am 1), .ref (am 2), .ref (am 3), .ref (am 4), .ref (am 5), .long bu, .long he, .ref (am 6), .ref (am 7)])), ((am 1), .inl (ct 1, 334, .inr (.inl S)))] sz (fun v W1 => v = some (.int (bI ((S 144 + S 138 + S 140) = w_sum (fun c9 => S (72 + c9)) n))) ∧ W1 = [((am 0), .inr (8, [.int 0, .ref (am 1), .ref (am 2), .ref (am 3), .ref (am 4), .ref (am 5), .long bu, .long he, .ref (am 6), .ref (am 7)])), ((am 1), .inl (ct 1, 334, .inr (.inl S)))] ∧ (True))) 0 0 (va_A [((am 0), .inr (8, [.int th, .ref (am 1), .ref (am 2), .ref (am 3), .ref (am 4), .ref (am 5), .long bu, .long he, .ref (am 6), .ref (am 7)])), ((am 1), .inl (ct 1, 334, .inr (.inl S)))] sz) := by
  refine enterW (by decide) (Nat.le_of_ble_eq_true rfl) ?_
  intro p e s m args below meth c ls A hx hb hr hml hown hts hlk hin hsz hAe hP hD hA hE hV hS hl
  have hl : lv_has ls 5 [(0, .ref (am 0)), (1, .int 2)] := hl
  refine lv_aload_n hx hb d_M_isKept_0 rfl (lv_at hl 0 rfl) ?_
  refine lv_iload_n hx hb d_M_isKept_1 rfl (lv_at hl 1 rfl) ?_
  refine lv_i2l (v := 2) hx hb d_M_isKept_2 (by decide) ?_
  refine lv_lconst (v := 0) hx hb d_M_isKept_3 (by decide) ?_
  refine lv_ldc2 (v := 3) hx hb hown (hts _ (List.mem_cons_of_mem _ x_1045)) d_M_isKept_4 ?_
  refine cRS (As := [.long 2, .long 0, .long 3]) (rest := [.ref (am 0)]) K_M_in x_978 hx hb hml hown hts hE hV hS (c_M_in l D ct st 2 0 3) (fun k q h => by simp at h) rfl hl.1 rfl (Nat.le_of_ble_eq_true rfl) d_M_isKept_7 (Nat.le_of_ble_eq_true rfl) (Nat.le_of_ble_eq_true rfl) ⟨Nat.le_of_ble_eq_true rfl, Nat.le_of_ble_eq_true rfl⟩ ?_
  refine q_ifeq_b (tgt := 17) hx hb d_M_isKept_10 (by decide) (fun h_10 => absurd (w_inN (a := 2) (lo := 0) (hi := 3) (by omega) (by omega) (by omega)) h_10) (fun h_10 => ?_)
  refine lv_iconst (v := 0) hx hb d_M_isKept_13 (by decide) ?_
  refine lv_goto (tgt := 18) hx hb d_M_isKept_14 (by decide) ?_
  refine q_put (ty := .int) 0 0 (ws1 := [((am 0), .inr (8, [.int 0, .ref (am 1), .ref (am 2), .ref (am 3), .ref (am 4), .ref (am 5), .long bu, .long he, .ref (am 6), .ref (am 7)])), ((am 1), .inl (ct 1, 334, .inr (.inl S)))]) t_M i_M t_M_ok n_M rfl hx hb hts hown hE hP hD hS rfl (by decide) x_936 rfl (by decide +kernel) (rfl) rfl (Nat.le_of_ble_eq_true rfl) rfl d_M_isKept_18 (fun H locs hP hD hS => ?_)
  refine lv_aload_n hx hb d_M_isKept_21 rfl (lv_at hl 0 rfl) ?_
  refine q_get 0 0 i_M rfl hx hb hts hown hE hP rfl (by decide) x_936 rfl d_M_isKept_22 ?_
  refine lv_if_le (tgt := 30) hx hb d_M_isKept_25 (by decide) (fun _ => ?_) (fun h => absurd h (by decide))
  refine lv_aload_n hx hb d_M_isKept_30 rfl (lv_at hl 0 rfl) ?_
  refine q_get 0 1 i_M rfl hx hb hts hown hE hP rfl (by decide) x_937 rfl d_M_isKept_31 ?_
  refine lv_sipush (v := 142) hx hb d_M_isKept_34 (by decide) ?_
  refine lv_iload_n hx hb d_M_isKept_37 rfl (lv_at hl 1 rfl) ?_
  refine q_iadd (v := 144) hx hb d_M_isKept_38 (by decide) ?_
  refine q_lald (k := 144) 1 hx hb hE hP rfl rfl (by omega) (by decide) d_M_isKept_39 ?_
  refine lv_aload_n hx hb d_M_isKept_40 rfl (lv_at hl 0 rfl) ?_
  refine q_get 0 1 i_M rfl hx hb hts hown hE hP rfl (by decide) x_937 rfl d_M_isKept_41 ?_
  refine lv_sipush (v := 136) hx hb d_M_isKept_44 (by decide) ?_
  refine lv_iload_n hx hb d_M_isKept_47 rfl (lv_at hl 1 rfl) ?_
  refine q_iadd (v := 138) hx hb d_M_isKept_48 (by decide) ?_
  refine q_lald (k := 138) 1 hx hb hE hP rfl rfl (by omega) (by decide) d_M_isKept_49 ?_
  refine lv_ladd hx hb d_M_isKept_50 ?_
  refine lv_iload_n hx hb d_M_isKept_51 rfl (lv_at hl 1 rfl) ?_
  refine lv_iconst (v := 2) hx hb d_M_isKept_52 (by decide) ?_
  refine lv_icmp_ne (tgt := 67) hx hb d_M_isKept_53 (by decide) (fun h => absurd h (by decide)) (fun _ => ?_)
  refine lv_aload_n hx hb d_M_isKept_56 rfl (lv_at hl 0 rfl) ?_
  refine q_get 0 1 i_M rfl hx hb hts hown hE hP rfl (by decide) x_937 rfl d_M_isKept_57 ?_
  refine lv_sipush (v := 140) hx hb d_M_isKept_60 (by decide) ?_
  refine q_lald (k := 140) 1 hx hb hE hP rfl rfl (by omega) (by decide) d_M_isKept_63 ?_
  refine lv_goto (tgt := 85) hx hb d_M_isKept_64 (by decide) ?_
  refine lv_ladd hx hb d_M_isKept_85 ?_
  refine lv_lstore_n (lv' := [(2, .long (((S 144) + (S 138)) + (S 140))), (0, .ref (am 0)), (1, .int 2)]) hx hb d_M_isKept_86 rfl hl (by decide) rfl (fun ls hl => ?_)
  refine lv_iconst (v := 0) hx hb d_M_isKept_87 (by decide) ?_
  refine lv_istore (lv' := [(4, .int 0), (2, .long (((S 144) + (S 138)) + (S 140))), (0, .ref (am 0)), (1, .int 2)]) hx hb d_M_isKept_88 hl (by decide) rfl (fun ls hl => ?_)
  have loop_90 : ∀ (n9 : Nat) (i : Nat) (du : Int64) (hi : i ≤ n) (hdu : du = (S 144 + S 138 + S 140) - w_sum (fun c9 => S (72 + c9)) i) (hn9 : n - i < n9) (H : Heap) (locs : List Loc) (ls : Array Slot), va_P D classes [((am 0), .inr (8, [.int 0, .ref (am 1), .ref (am 2), .ref (am 3), .ref (am 4), .ref (am 5), .long bu, .long he, .ref (am 6), .ref (am 7)])), ((am 1), .inl (ct 1, 334, .inr (.inl S)))] H → va_D A [((am 0), .inr (8, [.int 0, .ref (am 1), .ref (am 2), .ref (am 3), .ref (am 4), .ref (am 5), .long bu, .long he, .ref (am 6), .ref (am 7)])), ((am 1), .inl (ct 1, 334, .inr (.inl S)))] → va_S A s.heap H locs → lv_has ls 5 [(0, .ref (am 0)), (1, .int 2), (2, .long du), (4, .int (nI i))] → W p l e (rmW 1 0 0 25) s m args below meth c H locs (0) (0) (MQ below (QcW D [((am 0), .inr (8, [.int th, .ref (am 1), .ref (am 2), .ref (am 3), .ref (am 4), .ref (am 5), .long bu, .long he, .ref (am 6), .ref (am 7)])), ((am 1), .inl (ct 1, 334, .inr (.inl S)))] sz (fun v W1 => v = some (.int (bI ((S 144 + S 138 + S 140) = w_sum (fun c9 => S (72 + c9)) n))) ∧ W1 = [((am 0), .inr (8, [.int 0, .ref (am 1), .ref (am 2), .ref (am 3), .ref (am 4), .ref (am 5), .long bu, .long he, .ref (am 6), .ref (am 7)])), ((am 1), .inl (ct 1, 334, .inr (.inl S)))] ∧ (True))) args s 0 0 A) (F0 m 90 ls []) := by
    intro n9
    induction n9 with
    | zero => intro i du hi hdu hn9 H locs ls hP hD hS hl; exact absurd hn9 (Nat.not_lt_zero _)
    | succ n9 ih_90 =>
      intro i du hi hdu hn9 H locs ls hP hD hS hl
      refine lv_iload hx hb d_M_isKept_90 (lv_at hl 3 rfl) ?_
      refine lv_i2l (v := lN i) hx hb d_M_isKept_92 (nI_l (by omega)) ?_
      refine lv_aload_n hx hb d_M_isKept_93 rfl (lv_at hl 0 rfl) ?_
      refine q_get 0 1 i_M rfl hx hb hts hown hE hP rfl (by decide) x_937 rfl d_M_isKept_94 ?_
      refine lv_iconst (v := 4) hx hb d_M_isKept_97 (by decide) ?_
      refine q_lald (k := 4) 1 hx hb hE hP rfl rfl (by omega) (by decide) d_M_isKept_98 ?_
      refine q_topl (v := lN n) (hS4) ?_
      refine W.lcmp hx hb d_M_isKept_99 ?_
      refine q_cmp_ge (tgt := 127) hx hb d_M_isKept_100 (by decide) (fun h_100 => ?_) (fun h_100 => ?_)
      · have hin9 : i = n := by rw [lN_le (by omega) (by omega)] at h_100; omega
        refine lv_lload_n hx hb d_M_isKept_127 rfl (lv_at hl 2 rfl) ?_
        refine lv_lconst (v := 0) hx hb d_M_isKept_128 (by decide) ?_
        refine W.lcmp hx hb d_M_isKept_129 ?_
        refine q_cmp_ne (tgt := 137) hx hb d_M_isKept_130 (by decide) (fun h_130 => ?_) (fun h_130 => ?_)
        · refine lv_iconst (v := 0) hx hb d_M_isKept_137 (by decide) ?_
          exact rW_z (P := (S 144 + S 138 + S 140) = w_sum (fun c9 => S (72 + c9)) n) hx hb hr hlk hAe hS hP hD (Nat.le_of_ble_eq_true rfl) (Nat.le_of_ble_eq_true rfl) d_M_isKept_138 (bI_0 (by rw [hdu, hin9] at h_130; first | exact eq_sub9 h_130 | exact fun z => h_130 (by rw [z, Int64.sub_self]))) ⟨rfl, rfl, trivial⟩
        · refine lv_iconst (v := 1) hx hb d_M_isKept_133 (by decide) ?_
          refine lv_goto (tgt := 138) hx hb d_M_isKept_134 (by decide) ?_
          exact rW_z (P := (S 144 + S 138 + S 140) = w_sum (fun c9 => S (72 + c9)) n) hx hb hr hlk hAe hS hP hD (Nat.le_of_ble_eq_true rfl) (Nat.le_of_ble_eq_true rfl) d_M_isKept_138 (bI_1 (by rw [hdu, hin9] at h_130; first | exact eq_sub9 h_130 | exact fun z => h_130 (by rw [z, Int64.sub_self]))) ⟨rfl, rfl, trivial⟩
      · have hin9 : i < n := by rw [lN_le (by omega) (by omega)] at h_100; omega
        refine lv_lload_n hx hb d_M_isKept_103 rfl (lv_at hl 2 rfl) ?_
        refine lv_aload_n hx hb d_M_isKept_104 rfl (lv_at hl 0 rfl) ?_
        refine q_get 0 1 i_M rfl hx hb hts hown hE hP rfl (by decide) x_937 rfl d_M_isKept_105 ?_
        refine lv_bipush (v := 8) hx hb d_M_isKept_108 (by decide) ?_
        refine lv_bipush (v := 32) hx hb d_M_isKept_110 (by decide) ?_
        refine lv_iload_n hx hb d_M_isKept_112 rfl (lv_at hl 1 rfl) ?_
        refine q_imul (v := 64) hx hb d_M_isKept_113 (by decide) ?_
        refine q_iadd (v := 72) hx hb d_M_isKept_114 (by decide) ?_
        refine lv_iload hx hb d_M_isKept_115 (lv_at hl 3 rfl) ?_
        refine q_iadd (v := nI (72 + i)) hx hb d_M_isKept_117 (nI_add 72 i) ?_
        refine q_lald (k := 72 + i) 1 hx hb hE hP rfl rfl (by omega) (by decide) d_M_isKept_118 ?_
        refine lv_lsub hx hb d_M_isKept_119 ?_
        refine lv_lstore_n (lv' := [(2, .long (du - (S (72 + i)))), (0, .ref (am 0)), (1, .int 2), (4, .int (nI i))]) hx hb d_M_isKept_120 rfl hl (by decide) rfl (fun ls hl => ?_)
        refine lv_iinc (v := (nI (i + 1))) (lv' := [(4, .int (nI (i + 1))), (2, .long (du - (S (72 + i)))), (0, .ref (am 0)), (1, .int 2)]) hx hb d_M_isKept_121 hl (k := 3) rfl (nI_1 _) (by decide) rfl (fun ls hl => ?_)
        refine lv_goto (tgt := 90) hx hb d_M_isKept_124 (by decide) ?_
        exact ih_90 (i + 1) (du - (S (72 + i))) (by omega) (by rw [hdu, show w_sum (fun c9 => S (72 + c9)) (i + 1) = w_sum (fun c9 => S (72 + c9)) i + S (72 + i) from rfl, sub_add9]) (by omega) _ _ _ hP hD hS (lv_sub hl [2, 3, 1, 0] rfl)
  exact loop_90 _ 0 (((S 144) + (S 138)) + (S 140)) (by omega) ((Int64.sub_zero _).symm) (Nat.lt_succ_self _) _ _ _ hP hD hS (lv_sub hl [2, 3, 1, 0] rfl)
set_option maxHeartbeats 4000000 in
set_option maxRecDepth 100000 in
theorem c_M_isKept_3 (l : Launch) (D : va_G) (ct : Nat → ClassId) (st : Nat → Nat) (am : Nat → Nat) (th : Int32) (bu : Int64) (he : Int64) (S : Nat → Int64) (n : Nat) (hS4 : S 4 = lN n) (hn : n ≤ 32) (sz : Nat) : Met l y_M_isKept (wsy y_M_isKept b_M_isKept 5 (some .boolean)) (rmW 1 0 0 25) (PcW D ct st [.ref (am 0), .int 3] [((am 0), .inr (8, [.int th, .ref (am 1), .ref (am 2), .ref (am 3), .ref (am 4), .ref (am 5), .long bu, .long he, .ref (am 6), .ref (am 7)])), ((am 1), .inl (ct 1, 334, .inr (.inl S)))] sz) (QcW D [((am 0), .inr (8, [.int th, .ref (am 1), .ref (am 2), .ref (am 3), .ref (am 4), .ref (am 5), .long bu, .long he, .ref (am 6), .ref (am 7)])), ((am 1), .inl (ct 1, 334, .inr (.inl S)))] sz (fun v W1 => v = some (.int (bI ((S 145 + S 139 + -S 141) = w_sum (fun c9 => S (104 + c9)) n))) ∧ W1 = [((am 0), .inr (8, [.int 0, .ref (am 1), .ref (am 2), .ref (am 3), .ref (am 4), .ref (am 5), .long bu, .long he, .ref (am 6), .ref (am 7)])), ((am 1), .inl (ct 1, 334, .inr (.inl S)))] ∧ (True))) 0 0 (va_A [((am 0), .inr (8, [.int th, .ref (am 1), .ref (am 2), .ref (am 3), .ref (am 4), .ref (am 5), .long bu, .long he, .ref (am 6), .ref (am 7)])), ((am 1), .inl (ct 1, 334, .inr (.inl S)))] sz) := by
  refine enterW (by decide) (Nat.le_of_ble_eq_true rfl) ?_
  intro p e s m args below meth c ls A hx hb hr hml hown hts hlk hin hsz hAe hP hD hA hE hV hS hl
  have hl : lv_has ls 5 [(0, .ref (am 0)), (1, .int 3)] := hl
  refine lv_aload_n hx hb d_M_isKept_0 rfl (lv_at hl 0 rfl) ?_
  refine lv_iload_n hx hb d_M_isKept_1 rfl (lv_at hl 1 rfl) ?_
  refine lv_i2l (v := 3) hx hb d_M_isKept_2 (by decide) ?_
  refine lv_lconst (v := 0) hx hb d_M_isKept_3 (by decide) ?_
  refine lv_ldc2 (v := 3) hx hb hown (hts _ (List.mem_cons_of_mem _ x_1045)) d_M_isKept_4 ?_
  refine cRS (As := [.long 3, .long 0, .long 3]) (rest := [.ref (am 0)]) K_M_in x_978 hx hb hml hown hts hE hV hS (c_M_in l D ct st 3 0 3) (fun k q h => by simp at h) rfl hl.1 rfl (Nat.le_of_ble_eq_true rfl) d_M_isKept_7 (Nat.le_of_ble_eq_true rfl) (Nat.le_of_ble_eq_true rfl) ⟨Nat.le_of_ble_eq_true rfl, Nat.le_of_ble_eq_true rfl⟩ ?_
  refine q_ifeq_b (tgt := 17) hx hb d_M_isKept_10 (by decide) (fun h_10 => absurd (w_inN (a := 3) (lo := 0) (hi := 3) (by omega) (by omega) (by omega)) h_10) (fun h_10 => ?_)
  refine lv_iconst (v := 0) hx hb d_M_isKept_13 (by decide) ?_
  refine lv_goto (tgt := 18) hx hb d_M_isKept_14 (by decide) ?_
  refine q_put (ty := .int) 0 0 (ws1 := [((am 0), .inr (8, [.int 0, .ref (am 1), .ref (am 2), .ref (am 3), .ref (am 4), .ref (am 5), .long bu, .long he, .ref (am 6), .ref (am 7)])), ((am 1), .inl (ct 1, 334, .inr (.inl S)))]) t_M i_M t_M_ok n_M rfl hx hb hts hown hE hP hD hS rfl (by decide) x_936 rfl (by decide +kernel) (rfl) rfl (Nat.le_of_ble_eq_true rfl) rfl d_M_isKept_18 (fun H locs hP hD hS => ?_)
  refine lv_aload_n hx hb d_M_isKept_21 rfl (lv_at hl 0 rfl) ?_
  refine q_get 0 0 i_M rfl hx hb hts hown hE hP rfl (by decide) x_936 rfl d_M_isKept_22 ?_
  refine lv_if_le (tgt := 30) hx hb d_M_isKept_25 (by decide) (fun _ => ?_) (fun h => absurd h (by decide))
  refine lv_aload_n hx hb d_M_isKept_30 rfl (lv_at hl 0 rfl) ?_
  refine q_get 0 1 i_M rfl hx hb hts hown hE hP rfl (by decide) x_937 rfl d_M_isKept_31 ?_
  refine lv_sipush (v := 142) hx hb d_M_isKept_34 (by decide) ?_
  refine lv_iload_n hx hb d_M_isKept_37 rfl (lv_at hl 1 rfl) ?_
  refine q_iadd (v := 145) hx hb d_M_isKept_38 (by decide) ?_
  refine q_lald (k := 145) 1 hx hb hE hP rfl rfl (by omega) (by decide) d_M_isKept_39 ?_
  refine lv_aload_n hx hb d_M_isKept_40 rfl (lv_at hl 0 rfl) ?_
  refine q_get 0 1 i_M rfl hx hb hts hown hE hP rfl (by decide) x_937 rfl d_M_isKept_41 ?_
  refine lv_sipush (v := 136) hx hb d_M_isKept_44 (by decide) ?_
  refine lv_iload_n hx hb d_M_isKept_47 rfl (lv_at hl 1 rfl) ?_
  refine q_iadd (v := 139) hx hb d_M_isKept_48 (by decide) ?_
  refine q_lald (k := 139) 1 hx hb hE hP rfl rfl (by omega) (by decide) d_M_isKept_49 ?_
  refine lv_ladd hx hb d_M_isKept_50 ?_
  refine lv_iload_n hx hb d_M_isKept_51 rfl (lv_at hl 1 rfl) ?_
  refine lv_iconst (v := 2) hx hb d_M_isKept_52 (by decide) ?_
  refine lv_icmp_ne (tgt := 67) hx hb d_M_isKept_53 (by decide) (fun _ => ?_) (fun h => absurd h (by decide))
  refine lv_iload_n hx hb d_M_isKept_67 rfl (lv_at hl 1 rfl) ?_
  refine lv_iconst (v := 3) hx hb d_M_isKept_68 (by decide) ?_
  refine lv_icmp_ne (tgt := 84) hx hb d_M_isKept_69 (by decide) (fun h => absurd h (by decide)) (fun _ => ?_)
  refine lv_aload_n hx hb d_M_isKept_72 rfl (lv_at hl 0 rfl) ?_
  refine q_get 0 1 i_M rfl hx hb hts hown hE hP rfl (by decide) x_937 rfl d_M_isKept_73 ?_
  refine lv_sipush (v := 141) hx hb d_M_isKept_76 (by decide) ?_
  refine q_lald (k := 141) 1 hx hb hE hP rfl rfl (by omega) (by decide) d_M_isKept_79 ?_
  refine lv_lneg hx hb d_M_isKept_80 ?_
  refine lv_goto (tgt := 85) hx hb d_M_isKept_81 (by decide) ?_
  refine lv_ladd hx hb d_M_isKept_85 ?_
  refine lv_lstore_n (lv' := [(2, .long (((S 145) + (S 139)) + (-(S 141)))), (0, .ref (am 0)), (1, .int 3)]) hx hb d_M_isKept_86 rfl hl (by decide) rfl (fun ls hl => ?_)
  refine lv_iconst (v := 0) hx hb d_M_isKept_87 (by decide) ?_
  refine lv_istore (lv' := [(4, .int 0), (2, .long (((S 145) + (S 139)) + (-(S 141)))), (0, .ref (am 0)), (1, .int 3)]) hx hb d_M_isKept_88 hl (by decide) rfl (fun ls hl => ?_)
  have loop_90 : ∀ (n9 : Nat) (i : Nat) (du : Int64) (hi : i ≤ n) (hdu : du = (S 145 + S 139 + -S 141) - w_sum (fun c9 => S (104 + c9)) i) (hn9 : n - i < n9) (H : Heap) (locs : List Loc) (ls : Array Slot), va_P D classes [((am 0), .inr (8, [.int 0, .ref (am 1), .ref (am 2), .ref (am 3), .ref (am 4), .ref (am 5), .long bu, .long he, .ref (am 6), .ref (am 7)])), ((am 1), .inl (ct 1, 334, .inr (.inl S)))] H → va_D A [((am 0), .inr (8, [.int 0, .ref (am 1), .ref (am 2), .ref (am 3), .ref (am 4), .ref (am 5), .long bu, .long he, .ref (am 6), .ref (am 7)])), ((am 1), .inl (ct 1, 334, .inr (.inl S)))] → va_S A s.heap H locs → lv_has ls 5 [(0, .ref (am 0)), (1, .int 3), (2, .long du), (4, .int (nI i))] → W p l e (rmW 1 0 0 25) s m args below meth c H locs (0) (0) (MQ below (QcW D [((am 0), .inr (8, [.int th, .ref (am 1), .ref (am 2), .ref (am 3), .ref (am 4), .ref (am 5), .long bu, .long he, .ref (am 6), .ref (am 7)])), ((am 1), .inl (ct 1, 334, .inr (.inl S)))] sz (fun v W1 => v = some (.int (bI ((S 145 + S 139 + -S 141) = w_sum (fun c9 => S (104 + c9)) n))) ∧ W1 = [((am 0), .inr (8, [.int 0, .ref (am 1), .ref (am 2), .ref (am 3), .ref (am 4), .ref (am 5), .long bu, .long he, .ref (am 6), .ref (am 7)])), ((am 1), .inl (ct 1, 334, .inr (.inl S)))] ∧ (True))) args s 0 0 A) (F0 m 90 ls []) := by
    intro n9
    induction n9 with
    | zero => intro i du hi hdu hn9 H locs ls hP hD hS hl; exact absurd hn9 (Nat.not_lt_zero _)
    | succ n9 ih_90 =>
      intro i du hi hdu hn9 H locs ls hP hD hS hl
      refine lv_iload hx hb d_M_isKept_90 (lv_at hl 3 rfl) ?_
      refine lv_i2l (v := lN i) hx hb d_M_isKept_92 (nI_l (by omega)) ?_
      refine lv_aload_n hx hb d_M_isKept_93 rfl (lv_at hl 0 rfl) ?_
      refine q_get 0 1 i_M rfl hx hb hts hown hE hP rfl (by decide) x_937 rfl d_M_isKept_94 ?_
      refine lv_iconst (v := 4) hx hb d_M_isKept_97 (by decide) ?_
      refine q_lald (k := 4) 1 hx hb hE hP rfl rfl (by omega) (by decide) d_M_isKept_98 ?_
      refine q_topl (v := lN n) (hS4) ?_
      refine W.lcmp hx hb d_M_isKept_99 ?_
      refine q_cmp_ge (tgt := 127) hx hb d_M_isKept_100 (by decide) (fun h_100 => ?_) (fun h_100 => ?_)
      · have hin9 : i = n := by rw [lN_le (by omega) (by omega)] at h_100; omega
        refine lv_lload_n hx hb d_M_isKept_127 rfl (lv_at hl 2 rfl) ?_
        refine lv_lconst (v := 0) hx hb d_M_isKept_128 (by decide) ?_
        refine W.lcmp hx hb d_M_isKept_129 ?_
        refine q_cmp_ne (tgt := 137) hx hb d_M_isKept_130 (by decide) (fun h_130 => ?_) (fun h_130 => ?_)
        · refine lv_iconst (v := 0) hx hb d_M_isKept_137 (by decide) ?_
          exact rW_z (P := (S 145 + S 139 + -S 141) = w_sum (fun c9 => S (104 + c9)) n) hx hb hr hlk hAe hS hP hD (Nat.le_of_ble_eq_true rfl) (Nat.le_of_ble_eq_true rfl) d_M_isKept_138 (bI_0 (by rw [hdu, hin9] at h_130; first | exact eq_sub9 h_130 | exact fun z => h_130 (by rw [z, Int64.sub_self]))) ⟨rfl, rfl, trivial⟩
        · refine lv_iconst (v := 1) hx hb d_M_isKept_133 (by decide) ?_
          refine lv_goto (tgt := 138) hx hb d_M_isKept_134 (by decide) ?_
          exact rW_z (P := (S 145 + S 139 + -S 141) = w_sum (fun c9 => S (104 + c9)) n) hx hb hr hlk hAe hS hP hD (Nat.le_of_ble_eq_true rfl) (Nat.le_of_ble_eq_true rfl) d_M_isKept_138 (bI_1 (by rw [hdu, hin9] at h_130; first | exact eq_sub9 h_130 | exact fun z => h_130 (by rw [z, Int64.sub_self]))) ⟨rfl, rfl, trivial⟩
      · have hin9 : i < n := by rw [lN_le (by omega) (by omega)] at h_100; omega
        refine lv_lload_n hx hb d_M_isKept_103 rfl (lv_at hl 2 rfl) ?_
        refine lv_aload_n hx hb d_M_isKept_104 rfl (lv_at hl 0 rfl) ?_
        refine q_get 0 1 i_M rfl hx hb hts hown hE hP rfl (by decide) x_937 rfl d_M_isKept_105 ?_
        refine lv_bipush (v := 8) hx hb d_M_isKept_108 (by decide) ?_
        refine lv_bipush (v := 32) hx hb d_M_isKept_110 (by decide) ?_
        refine lv_iload_n hx hb d_M_isKept_112 rfl (lv_at hl 1 rfl) ?_
        refine q_imul (v := 96) hx hb d_M_isKept_113 (by decide) ?_
        refine q_iadd (v := 104) hx hb d_M_isKept_114 (by decide) ?_
        refine lv_iload hx hb d_M_isKept_115 (lv_at hl 3 rfl) ?_
        refine q_iadd (v := nI (104 + i)) hx hb d_M_isKept_117 (nI_add 104 i) ?_
        refine q_lald (k := 104 + i) 1 hx hb hE hP rfl rfl (by omega) (by decide) d_M_isKept_118 ?_
        refine lv_lsub hx hb d_M_isKept_119 ?_
        refine lv_lstore_n (lv' := [(2, .long (du - (S (104 + i)))), (0, .ref (am 0)), (1, .int 3), (4, .int (nI i))]) hx hb d_M_isKept_120 rfl hl (by decide) rfl (fun ls hl => ?_)
        refine lv_iinc (v := (nI (i + 1))) (lv' := [(4, .int (nI (i + 1))), (2, .long (du - (S (104 + i)))), (0, .ref (am 0)), (1, .int 3)]) hx hb d_M_isKept_121 hl (k := 3) rfl (nI_1 _) (by decide) rfl (fun ls hl => ?_)
        refine lv_goto (tgt := 90) hx hb d_M_isKept_124 (by decide) ?_
        exact ih_90 (i + 1) (du - (S (104 + i))) (by omega) (by rw [hdu, show w_sum (fun c9 => S (104 + c9)) (i + 1) = w_sum (fun c9 => S (104 + c9)) i + S (104 + i) from rfl, sub_add9]) (by omega) _ _ _ hP hD hS (lv_sub hl [2, 3, 1, 0] rfl)
  exact loop_90 _ 0 (((S 145) + (S 139)) + (-(S 141))) (by omega) ((Int64.sub_zero _).symm) (Nat.lt_succ_self _) _ _ _ hP hD hS (lv_sub hl [2, 3, 1, 0] rfl)
set_option maxHeartbeats 4000000 in
set_option maxRecDepth 100000 in
theorem c_M_many (l : Launch) (D : va_G) (ct : Nat → ClassId) (st : Nat → Nat) (am : Nat → Nat) (th : Int32) (bu : Int64) (he : Int64) (S : Nat → Int64) (sz : Nat) : Met l y_M_many (wsy y_M_many b_M_many 1 (some .int)) (rmW 0 0 0 0) (PcW D ct st [.ref (am 0)] [((am 0), .inr (8, [.int th, .ref (am 1), .ref (am 2), .ref (am 3), .ref (am 4), .ref (am 5), .long bu, .long he, .ref (am 6), .ref (am 7)])), ((am 1), .inl (ct 1, 334, .inr (.inl S)))] sz) (QcW D [((am 0), .inr (8, [.int th, .ref (am 1), .ref (am 2), .ref (am 3), .ref (am 4), .ref (am 5), .long bu, .long he, .ref (am 6), .ref (am 7)])), ((am 1), .inl (ct 1, 334, .inr (.inl S)))] sz (fun v W1 => v = some (.int ((S 4).toInt32)) ∧ W1 = [((am 0), .inr (8, [.int 0, .ref (am 1), .ref (am 2), .ref (am 3), .ref (am 4), .ref (am 5), .long bu, .long he, .ref (am 6), .ref (am 7)])), ((am 1), .inl (ct 1, 334, .inr (.inl S)))] ∧ (True))) 0 0 (va_A [((am 0), .inr (8, [.int th, .ref (am 1), .ref (am 2), .ref (am 3), .ref (am 4), .ref (am 5), .long bu, .long he, .ref (am 6), .ref (am 7)])), ((am 1), .inl (ct 1, 334, .inr (.inl S)))] sz) := by
  refine enterW (by decide) (Nat.le_of_ble_eq_true rfl) ?_
  intro p e s m args below meth c ls A hx hb hr hml hown hts hlk hin hsz hAe hP hD hA hE hV hS hl
  have hl : lv_has ls 1 [(0, .ref (am 0))] := hl
  refine lv_aload_n hx hb d_M_many_0 rfl (lv_at hl 0 rfl) ?_
  refine lv_iconst (v := 0) hx hb d_M_many_1 (by decide) ?_
  refine q_put (ty := .int) 0 0 (ws1 := [((am 0), .inr (8, [.int 0, .ref (am 1), .ref (am 2), .ref (am 3), .ref (am 4), .ref (am 5), .long bu, .long he, .ref (am 6), .ref (am 7)])), ((am 1), .inl (ct 1, 334, .inr (.inl S)))]) t_M i_M t_M_ok n_M rfl hx hb hts hown hE hP hD hS rfl (by decide) x_936 rfl (by decide +kernel) (rfl) rfl (Nat.le_of_ble_eq_true rfl) rfl d_M_many_2 (fun H locs hP hD hS => ?_)
  refine lv_aload_n hx hb d_M_many_5 rfl (lv_at hl 0 rfl) ?_
  refine q_get 0 1 i_M rfl hx hb hts hown hE hP rfl (by decide) x_937 rfl d_M_many_6 ?_
  refine lv_iconst (v := 4) hx hb d_M_many_9 (by decide) ?_
  refine q_lald (k := 4) 1 hx hb hE hP rfl rfl (by omega) (by decide) d_M_many_10 ?_
  refine lv_l2i hx hb d_M_many_11 rfl ?_
  exact rW_i hx hb hr hlk hAe hS hP hD (Nat.le_of_ble_eq_true rfl) (Nat.le_of_ble_eq_true rfl) d_M_many_12 ⟨rfl, rfl, trivial⟩
set_option maxHeartbeats 4000000 in
set_option maxRecDepth 100000 in
theorem c_M_steps (l : Launch) (D : va_G) (ct : Nat → ClassId) (st : Nat → Nat) (am : Nat → Nat) (th : Int32) (bu : Int64) (he : Int64) (S : Nat → Int64) (sz : Nat) : Met l y_M_steps (wsy y_M_steps b_M_steps 1 (some .int)) (rmW 0 0 0 0) (PcW D ct st [.ref (am 0)] [((am 0), .inr (8, [.int th, .ref (am 1), .ref (am 2), .ref (am 3), .ref (am 4), .ref (am 5), .long bu, .long he, .ref (am 6), .ref (am 7)])), ((am 1), .inl (ct 1, 334, .inr (.inl S)))] sz) (QcW D [((am 0), .inr (8, [.int th, .ref (am 1), .ref (am 2), .ref (am 3), .ref (am 4), .ref (am 5), .long bu, .long he, .ref (am 6), .ref (am 7)])), ((am 1), .inl (ct 1, 334, .inr (.inl S)))] sz (fun v W1 => v = some (.int ((S 7).toInt32)) ∧ W1 = [((am 0), .inr (8, [.int 0, .ref (am 1), .ref (am 2), .ref (am 3), .ref (am 4), .ref (am 5), .long bu, .long he, .ref (am 6), .ref (am 7)])), ((am 1), .inl (ct 1, 334, .inr (.inl S)))] ∧ (True))) 0 0 (va_A [((am 0), .inr (8, [.int th, .ref (am 1), .ref (am 2), .ref (am 3), .ref (am 4), .ref (am 5), .long bu, .long he, .ref (am 6), .ref (am 7)])), ((am 1), .inl (ct 1, 334, .inr (.inl S)))] sz) := by
  refine enterW (by decide) (Nat.le_of_ble_eq_true rfl) ?_
  intro p e s m args below meth c ls A hx hb hr hml hown hts hlk hin hsz hAe hP hD hA hE hV hS hl
  have hl : lv_has ls 1 [(0, .ref (am 0))] := hl
  refine lv_aload_n hx hb d_M_steps_0 rfl (lv_at hl 0 rfl) ?_
  refine lv_iconst (v := 0) hx hb d_M_steps_1 (by decide) ?_
  refine q_put (ty := .int) 0 0 (ws1 := [((am 0), .inr (8, [.int 0, .ref (am 1), .ref (am 2), .ref (am 3), .ref (am 4), .ref (am 5), .long bu, .long he, .ref (am 6), .ref (am 7)])), ((am 1), .inl (ct 1, 334, .inr (.inl S)))]) t_M i_M t_M_ok n_M rfl hx hb hts hown hE hP hD hS rfl (by decide) x_936 rfl (by decide +kernel) (rfl) rfl (Nat.le_of_ble_eq_true rfl) rfl d_M_steps_2 (fun H locs hP hD hS => ?_)
  refine lv_aload_n hx hb d_M_steps_5 rfl (lv_at hl 0 rfl) ?_
  refine q_get 0 1 i_M rfl hx hb hts hown hE hP rfl (by decide) x_937 rfl d_M_steps_6 ?_
  refine lv_bipush (v := 7) hx hb d_M_steps_9 (by decide) ?_
  refine q_lald (k := 7) 1 hx hb hE hP rfl rfl (by omega) (by decide) d_M_steps_11 ?_
  refine lv_l2i hx hb d_M_steps_12 rfl ?_
  exact rW_i hx hb hr hlk hAe hS hP hD (Nat.le_of_ble_eq_true rfl) (Nat.le_of_ble_eq_true rfl) d_M_steps_13 ⟨rfl, rfl, trivial⟩
set_option maxHeartbeats 4000000 in
set_option maxRecDepth 100000 in
theorem c_M_thrown (l : Launch) (D : va_G) (ct : Nat → ClassId) (st : Nat → Nat) (am : Nat → Nat) (th : Int32) (bu : Int64) (he : Int64) (S : Nat → Int64) : Met l y_M_thrown (wsy y_M_thrown b_M_thrown 1 (some .int)) (k2_rm 0 0) (PcR D ct st [.ref (am 0)] [((am 0), .inr (8, [.int th, .ref (am 1), .ref (am 2), .ref (am 3), .ref (am 4), .ref (am 5), .long bu, .long he, .ref (am 6), .ref (am 7)])), ((am 1), .inl (ct 1, 334, .inr (.inl S)))]) (k2_QcV (.int th)) 0 0 (fun _ => False) := by
  refine enterR (by decide) (Nat.le_of_ble_eq_true rfl) ?_
  intro p e s m args below meth c ls hx hb hr hml hown hts hlk hP hE hV hS hl
  have hl : lv_has ls 1 [(0, .ref (am 0))] := hl
  refine lv_aload_n hx hb d_M_thrown_0 rfl (lv_at hl 0 rfl) ?_
  refine q_get 0 0 i_M rfl hx hb hts hown hE hP rfl (by decide) x_936 rfl d_M_thrown_1 ?_
  exact rR_i hx hb hr hlk d_M_thrown_4 (rfl)
