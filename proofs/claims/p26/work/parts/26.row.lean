def fR (ck cp cs cg ca : Nat → Int32) : RF := fun a j => if a = 0 then (ck j).toInt else if a = 1 then (cp j).toInt else if a = 2 then (cs j).toInt else if a = 3 then (cg j).toInt else (ca j).toInt
theorem fR0 (ck cp cs cg ca : Nat → Int32) (j : Nat) : fR ck cp cs cg ca 0 j = (ck j).toInt := by simp [fR]
theorem fR1 (ck cp cs cg ca : Nat → Int32) (j : Nat) : fR ck cp cs cg ca 1 j = (cp j).toInt := by simp [fR]
theorem fR2 (ck cp cs cg ca : Nat → Int32) (j : Nat) : fR ck cp cs cg ca 2 j = (cs j).toInt := by simp [fR]
theorem fR3 (ck cp cs cg ca : Nat → Int32) (j : Nat) : fR ck cp cs cg ca 3 j = (cg j).toInt := by simp [fR]
theorem fR4 (ck cp cs cg ca : Nat → Int32) (j : Nat) : fR ck cp cs cg ca 4 j = (ca j).toInt := by simp [fR]
theorem upd_at (f : Nat → Int32) (k j : Nat) (x : Int32) : (upd f k x j).toInt = if j = k then x.toInt else (f j).toInt := by
  by_cases q : j = k
  · rw [if_pos q, q, pk_us]
  · rw [if_neg q, pk_un q]
theorem fR_at {ck cp cs cg ca ck1 cp1 cs1 cg1 ca1 : Nat → Int32} {k : Nat} {x0 x1 x2 x3 x4 : Int32} (e0 : ck1 = upd ck k x0) (e1 : cp1 = upd cp k x1) (e2 : cs1 = upd cs k x2) (e3 : cg1 = upd cg k x3) (e4 : ca1 = upd ca k x4) : ∀ a j, a < 5 → fR ck1 cp1 cs1 cg1 ca1 a j = if j = k then (if a = 0 then x0.toInt else if a = 1 then x1.toInt else if a = 2 then x2.toInt else if a = 3 then x3.toInt else x4.toInt) else fR ck cp cs cg ca a j := by
  intro a j ha
  rcases a5 ha with rfl | rfl | rfl | rfl | rfl
  · rw [fR0, fR0, e0, upd_at, if_pos rfl]
  · rw [fR1, fR1, e1, upd_at]; simp
  · rw [fR2, fR2, e2, upd_at]; simp
  · rw [fR3, fR3, e3, upd_at]; simp
  · rw [fR4, fR4, e4, upd_at]; simp
theorem fR_cp {ck cp cs cg ca ck1 cp1 cs1 cg1 ca1 : Nat → Int32} {k fr : Nat} (e0 : ck1 = upd ck k (ck fr)) (e1 : cp1 = upd cp k (cp fr)) (e4 : ca1 = upd ca k (ca fr)) (e2 : cs1 = upd cs k (cs fr)) (e3 : cg1 = upd cg k (cg fr)) : ∀ a j, a < 5 → j < 8 → fR ck1 cp1 cs1 cg1 ca1 a j = if j = k then fR ck cp cs cg ca a fr else fR ck cp cs cg ca a j := fun a j ha _ => fR_at e0 e1 e2 e3 e4 a j ha
theorem fR_new {ck cp cs cg ca ck1 cp1 cs1 cg1 ca1 : Nat → Int32} {k : Nat} {x0 x1 x2 x3 : Int32} (e0 : ck1 = upd ck k x0) (e1 : cp1 = upd cp k x1) (e4 : ca1 = upd ca k x1) (e2 : cs1 = upd cs k x2) (e3 : cg1 = upd cg k x3) : ∀ a j, a < 5 → j < 8 → fR ck1 cp1 cs1 cg1 ca1 a j = if j = k then r_new x0.toInt x1.toInt x2.toInt x3.toInt a else fR ck cp cs cg ca a j := fun a j ha _ => fR_at e0 e1 e2 e3 e4 a j ha
theorem fR_turn {ck cp cs cg ca dk dp ds dg da dk1 ds1 dg1 : Nat → Int32} {k : Nat} (h : ∀ a j, a < 5 → j < 8 → fR dk dp ds dg da a j = if j = k then fR ck cp cs cg ca a (k + 1) else fR ck cp cs cg ca a j) (e0 : dk1 = upd dk (k + 1) (ck k)) (e2 : ds1 = upd ds (k + 1) (cs k)) (e3 : dg1 = upd dg (k + 1) (cg k)) : ∀ a j, a < 5 → j < 8 → fR dk1 dp ds1 dg1 da a j = if j = k + 1 then (if a = 1 ∨ a = 4 then fR ck cp cs cg ca a (k + 1) else fR ck cp cs cg ca a k) else if j = k then fR ck cp cs cg ca a (k + 1) else fR ck cp cs cg ca a j := by
  intro a j ha hj
  have h1 := h a j ha hj
  rcases a5 ha with rfl | rfl | rfl | rfl | rfl
  · rw [fR0] at h1 ⊢; rw [e0, upd_at, h1]; simp [fR0]
  · rw [fR1] at h1 ⊢; rw [h1]; by_cases q : j = k + 1 <;> simp [q]
  · rw [fR2] at h1 ⊢; rw [e2, upd_at, h1]; simp [fR2]
  · rw [fR3] at h1 ⊢; rw [e3, upd_at, h1]; simp [fR3]
  · rw [fR4] at h1 ⊢; rw [h1]; by_cases q : j = k + 1 <;> simp [q]
theorem fR_set {ck cp cs cg ca cp1 ca1 : Nat → Int32} {k : Nat} {x : Int32} (e1 : cp1 = upd cp k x) (e4 : ca1 = upd ca k x) : ∀ a j, a < 5 → j < 8 → fR ck cp1 cs cg ca1 a j = if (a = 1 ∨ a = 4) ∧ j = k then x.toInt else fR ck cp cs cg ca a j := by
  intro a j ha hj
  rcases a5 ha with rfl | rfl | rfl | rfl | rfl
  · rw [fR0, fR0]; simp
  · rw [fR1, fR1, e1, upd_at]; simp
  · rw [fR2, fR2]; simp
  · rw [fR3, fR3]; simp
  · rw [fR4, fR4, e4, upd_at]; simp

set_option maxHeartbeats 4000000 in
set_option maxRecDepth 100000 in
theorem c_Row_copyFront (l : Launch) (D : va_G) (ct : Nat → ClassId) (st : Nat → Nat) (ra : Nat → Nat) (cnt : Nat) (ck : Nat → Int32) (cp : Nat → Int32) (ca : Nat → Int32) (cs : Nat → Int32) (cg : Nat → Int32) (fr : Nat) (to9 : Nat) (h1 : fr < 8) (h2 : to9 < 8) (sz : Nat) : Met l y_Row_copyFront (wsy y_Row_copyFront b_Row_copyFront 3 (none)) (rmW 0 0 0 0) (PcW D ct st [.ref (ra 0), .int (nI fr), .int (nI to9)] [((ra 0), .inr (3, [.int (nI cnt), .ref (ra 1), .ref (ra 2), .ref (ra 3), .ref (ra 4), .ref (ra 5)])), ((ra 1), .inl (ct 0, 8, .inl ck)), ((ra 2), .inl (ct 0, 8, .inl cp)), ((ra 3), .inl (ct 0, 8, .inl ca)), ((ra 4), .inl (ct 0, 8, .inl cs)), ((ra 5), .inl (ct 0, 8, .inl cg))] sz) (QcW D [((ra 0), .inr (3, [.int (nI cnt), .ref (ra 1), .ref (ra 2), .ref (ra 3), .ref (ra 4), .ref (ra 5)])), ((ra 1), .inl (ct 0, 8, .inl ck)), ((ra 2), .inl (ct 0, 8, .inl cp)), ((ra 3), .inl (ct 0, 8, .inl ca)), ((ra 4), .inl (ct 0, 8, .inl cs)), ((ra 5), .inl (ct 0, 8, .inl cg))] sz (fun v W1 => ∃ (ck1 : Nat → Int32) (cp1 : Nat → Int32) (ca1 : Nat → Int32) (cs1 : Nat → Int32) (cg1 : Nat → Int32), v = none ∧ W1 = [((ra 0), .inr (3, [.int (nI cnt), .ref (ra 1), .ref (ra 2), .ref (ra 3), .ref (ra 4), .ref (ra 5)])), ((ra 1), .inl (ct 0, 8, .inl ck1)), ((ra 2), .inl (ct 0, 8, .inl cp1)), ((ra 3), .inl (ct 0, 8, .inl ca1)), ((ra 4), .inl (ct 0, 8, .inl cs1)), ((ra 5), .inl (ct 0, 8, .inl cg1))] ∧ (∀ a j, a < 5 → j < 8 → fR ck1 cp1 cs1 cg1 ca1 a j = if j = to9 then (fR ck cp cs cg ca) a fr else (fR ck cp cs cg ca) a j))) 0 0 (va_A [((ra 0), .inr (3, [.int (nI cnt), .ref (ra 1), .ref (ra 2), .ref (ra 3), .ref (ra 4), .ref (ra 5)])), ((ra 1), .inl (ct 0, 8, .inl ck)), ((ra 2), .inl (ct 0, 8, .inl cp)), ((ra 3), .inl (ct 0, 8, .inl ca)), ((ra 4), .inl (ct 0, 8, .inl cs)), ((ra 5), .inl (ct 0, 8, .inl cg))] sz) := by
  refine enterW (by decide) (Nat.le_of_ble_eq_true rfl) ?_
  intro p e s m args below meth c ls A hx hb hr hml hown hts hlk hin hsz hAe hP hD hA hE hV hS hl
  have hl : lv_has ls 3 [(0, .ref (ra 0)), (1, .int (nI fr)), (2, .int (nI to9))] := hl
  refine lv_aload_n hx hb d_Row_copyFront_0 rfl (lv_at hl 0 rfl) ?_
  refine q_get 0 1 i_Row rfl hx hb hts hown hE hP rfl (by decide) x_151 rfl d_Row_copyFront_1 ?_
  refine lv_iload_n hx hb d_Row_copyFront_4 rfl (lv_at hl 2 rfl) ?_
  refine lv_aload_n hx hb d_Row_copyFront_5 rfl (lv_at hl 0 rfl) ?_
  refine q_get 0 1 i_Row rfl hx hb hts hown hE hP rfl (by decide) x_151 rfl d_Row_copyFront_6 ?_
  refine lv_iload_n hx hb d_Row_copyFront_9 rfl (lv_at hl 1 rfl) ?_
  refine q_iald (k := fr) 1 hx hb hE hP rfl rfl (by omega) (by decide) d_Row_copyFront_10 ?_
  obtain ⟨ck_1, eck_1⟩ : ∃ g9 : Nat → Int32, g9 = upd ck to9 (ck fr) := ⟨_, rfl⟩
  refine q_iast (k := to9) 1 (ws1 := [((ra 0), .inr (3, [.int (nI cnt), .ref (ra 1), .ref (ra 2), .ref (ra 3), .ref (ra 4), .ref (ra 5)])), ((ra 1), .inl (ct 0, 8, .inl ck_1)), ((ra 2), .inl (ct 0, 8, .inl cp)), ((ra 3), .inl (ct 0, 8, .inl ca)), ((ra 4), .inl (ct 0, 8, .inl cs)), ((ra 5), .inl (ct 0, 8, .inl cg))]) eck_1 hx hb hE hP hD hS rfl rfl (by omega) (by decide) rfl d_Row_copyFront_11 (fun H locs hP hD hS => ?_)
  refine lv_aload_n hx hb d_Row_copyFront_12 rfl (lv_at hl 0 rfl) ?_
  refine q_get 0 2 i_Row rfl hx hb hts hown hE hP rfl (by decide) x_152 rfl d_Row_copyFront_13 ?_
  refine lv_iload_n hx hb d_Row_copyFront_16 rfl (lv_at hl 2 rfl) ?_
  refine lv_aload_n hx hb d_Row_copyFront_17 rfl (lv_at hl 0 rfl) ?_
  refine q_get 0 2 i_Row rfl hx hb hts hown hE hP rfl (by decide) x_152 rfl d_Row_copyFront_18 ?_
  refine lv_iload_n hx hb d_Row_copyFront_21 rfl (lv_at hl 1 rfl) ?_
  refine q_iald (k := fr) 2 hx hb hE hP rfl rfl (by omega) (by decide) d_Row_copyFront_22 ?_
  obtain ⟨cp_1, ecp_1⟩ : ∃ g9 : Nat → Int32, g9 = upd cp to9 (cp fr) := ⟨_, rfl⟩
  refine q_iast (k := to9) 2 (ws1 := [((ra 0), .inr (3, [.int (nI cnt), .ref (ra 1), .ref (ra 2), .ref (ra 3), .ref (ra 4), .ref (ra 5)])), ((ra 1), .inl (ct 0, 8, .inl ck_1)), ((ra 2), .inl (ct 0, 8, .inl cp_1)), ((ra 3), .inl (ct 0, 8, .inl ca)), ((ra 4), .inl (ct 0, 8, .inl cs)), ((ra 5), .inl (ct 0, 8, .inl cg))]) ecp_1 hx hb hE hP hD hS rfl rfl (by omega) (by decide) rfl d_Row_copyFront_23 (fun H locs hP hD hS => ?_)
  refine lv_aload_n hx hb d_Row_copyFront_24 rfl (lv_at hl 0 rfl) ?_
  refine q_get 0 3 i_Row rfl hx hb hts hown hE hP rfl (by decide) x_153 rfl d_Row_copyFront_25 ?_
  refine lv_iload_n hx hb d_Row_copyFront_28 rfl (lv_at hl 2 rfl) ?_
  refine lv_aload_n hx hb d_Row_copyFront_29 rfl (lv_at hl 0 rfl) ?_
  refine q_get 0 3 i_Row rfl hx hb hts hown hE hP rfl (by decide) x_153 rfl d_Row_copyFront_30 ?_
  refine lv_iload_n hx hb d_Row_copyFront_33 rfl (lv_at hl 1 rfl) ?_
  refine q_iald (k := fr) 3 hx hb hE hP rfl rfl (by omega) (by decide) d_Row_copyFront_34 ?_
  obtain ⟨ca_1, eca_1⟩ : ∃ g9 : Nat → Int32, g9 = upd ca to9 (ca fr) := ⟨_, rfl⟩
  refine q_iast (k := to9) 3 (ws1 := [((ra 0), .inr (3, [.int (nI cnt), .ref (ra 1), .ref (ra 2), .ref (ra 3), .ref (ra 4), .ref (ra 5)])), ((ra 1), .inl (ct 0, 8, .inl ck_1)), ((ra 2), .inl (ct 0, 8, .inl cp_1)), ((ra 3), .inl (ct 0, 8, .inl ca_1)), ((ra 4), .inl (ct 0, 8, .inl cs)), ((ra 5), .inl (ct 0, 8, .inl cg))]) eca_1 hx hb hE hP hD hS rfl rfl (by omega) (by decide) rfl d_Row_copyFront_35 (fun H locs hP hD hS => ?_)
  refine lv_aload_n hx hb d_Row_copyFront_36 rfl (lv_at hl 0 rfl) ?_
  refine q_get 0 4 i_Row rfl hx hb hts hown hE hP rfl (by decide) x_154 rfl d_Row_copyFront_37 ?_
  refine lv_iload_n hx hb d_Row_copyFront_40 rfl (lv_at hl 2 rfl) ?_
  refine lv_aload_n hx hb d_Row_copyFront_41 rfl (lv_at hl 0 rfl) ?_
  refine q_get 0 4 i_Row rfl hx hb hts hown hE hP rfl (by decide) x_154 rfl d_Row_copyFront_42 ?_
  refine lv_iload_n hx hb d_Row_copyFront_45 rfl (lv_at hl 1 rfl) ?_
  refine q_iald (k := fr) 4 hx hb hE hP rfl rfl (by omega) (by decide) d_Row_copyFront_46 ?_
  obtain ⟨cs_1, ecs_1⟩ : ∃ g9 : Nat → Int32, g9 = upd cs to9 (cs fr) := ⟨_, rfl⟩
  refine q_iast (k := to9) 4 (ws1 := [((ra 0), .inr (3, [.int (nI cnt), .ref (ra 1), .ref (ra 2), .ref (ra 3), .ref (ra 4), .ref (ra 5)])), ((ra 1), .inl (ct 0, 8, .inl ck_1)), ((ra 2), .inl (ct 0, 8, .inl cp_1)), ((ra 3), .inl (ct 0, 8, .inl ca_1)), ((ra 4), .inl (ct 0, 8, .inl cs_1)), ((ra 5), .inl (ct 0, 8, .inl cg))]) ecs_1 hx hb hE hP hD hS rfl rfl (by omega) (by decide) rfl d_Row_copyFront_47 (fun H locs hP hD hS => ?_)
  refine lv_aload_n hx hb d_Row_copyFront_48 rfl (lv_at hl 0 rfl) ?_
  refine q_get 0 5 i_Row rfl hx hb hts hown hE hP rfl (by decide) x_155 rfl d_Row_copyFront_49 ?_
  refine lv_iload_n hx hb d_Row_copyFront_52 rfl (lv_at hl 2 rfl) ?_
  refine lv_aload_n hx hb d_Row_copyFront_53 rfl (lv_at hl 0 rfl) ?_
  refine q_get 0 5 i_Row rfl hx hb hts hown hE hP rfl (by decide) x_155 rfl d_Row_copyFront_54 ?_
  refine lv_iload_n hx hb d_Row_copyFront_57 rfl (lv_at hl 1 rfl) ?_
  refine q_iald (k := fr) 5 hx hb hE hP rfl rfl (by omega) (by decide) d_Row_copyFront_58 ?_
  obtain ⟨cg_1, ecg_1⟩ : ∃ g9 : Nat → Int32, g9 = upd cg to9 (cg fr) := ⟨_, rfl⟩
  refine q_iast (k := to9) 5 (ws1 := [((ra 0), .inr (3, [.int (nI cnt), .ref (ra 1), .ref (ra 2), .ref (ra 3), .ref (ra 4), .ref (ra 5)])), ((ra 1), .inl (ct 0, 8, .inl ck_1)), ((ra 2), .inl (ct 0, 8, .inl cp_1)), ((ra 3), .inl (ct 0, 8, .inl ca_1)), ((ra 4), .inl (ct 0, 8, .inl cs_1)), ((ra 5), .inl (ct 0, 8, .inl cg_1))]) ecg_1 hx hb hE hP hD hS rfl rfl (by omega) (by decide) rfl d_Row_copyFront_59 (fun H locs hP hD hS => ?_)
  exact rW_v hx hb hr hlk hAe hS hP hD (Nat.le_of_ble_eq_true rfl) (Nat.le_of_ble_eq_true rfl) d_Row_copyFront_60 ⟨ck_1, cp_1, ca_1, cs_1, cg_1, rfl, rfl, fR_cp eck_1 ecp_1 eca_1 ecs_1 ecg_1⟩
set_option maxHeartbeats 4000000 in
set_option maxRecDepth 100000 in
theorem c_Row_setPlace (l : Launch) (D : va_G) (ct : Nat → ClassId) (st : Nat → Nat) (ra : Nat → Nat) (cnt : Nat) (ck : Nat → Int32) (cp : Nat → Int32) (ca : Nat → Int32) (cs : Nat → Int32) (cg : Nat → Int32) (k : Nat) (pl : Int32) (h1 : k < 8) (sz : Nat) : Met l y_Row_setPlace (wsy y_Row_setPlace b_Row_setPlace 3 (none)) (rmW 0 0 0 0) (PcW D ct st [.ref (ra 0), .int (nI k), .int pl] [((ra 0), .inr (3, [.int (nI cnt), .ref (ra 1), .ref (ra 2), .ref (ra 3), .ref (ra 4), .ref (ra 5)])), ((ra 1), .inl (ct 0, 8, .inl ck)), ((ra 2), .inl (ct 0, 8, .inl cp)), ((ra 3), .inl (ct 0, 8, .inl ca)), ((ra 4), .inl (ct 0, 8, .inl cs)), ((ra 5), .inl (ct 0, 8, .inl cg))] sz) (QcW D [((ra 0), .inr (3, [.int (nI cnt), .ref (ra 1), .ref (ra 2), .ref (ra 3), .ref (ra 4), .ref (ra 5)])), ((ra 1), .inl (ct 0, 8, .inl ck)), ((ra 2), .inl (ct 0, 8, .inl cp)), ((ra 3), .inl (ct 0, 8, .inl ca)), ((ra 4), .inl (ct 0, 8, .inl cs)), ((ra 5), .inl (ct 0, 8, .inl cg))] sz (fun v W1 => ∃ (cp1 : Nat → Int32) (ca1 : Nat → Int32), v = none ∧ W1 = [((ra 0), .inr (3, [.int (nI cnt), .ref (ra 1), .ref (ra 2), .ref (ra 3), .ref (ra 4), .ref (ra 5)])), ((ra 1), .inl (ct 0, 8, .inl ck)), ((ra 2), .inl (ct 0, 8, .inl cp1)), ((ra 3), .inl (ct 0, 8, .inl ca1)), ((ra 4), .inl (ct 0, 8, .inl cs)), ((ra 5), .inl (ct 0, 8, .inl cg))] ∧ (∀ a j, a < 5 → j < 8 → fR ck cp1 cs cg ca1 a j = if (a = 1 ∨ a = 4) ∧ j = k then pl.toInt else (fR ck cp cs cg ca) a j))) 0 0 (va_A [((ra 0), .inr (3, [.int (nI cnt), .ref (ra 1), .ref (ra 2), .ref (ra 3), .ref (ra 4), .ref (ra 5)])), ((ra 1), .inl (ct 0, 8, .inl ck)), ((ra 2), .inl (ct 0, 8, .inl cp)), ((ra 3), .inl (ct 0, 8, .inl ca)), ((ra 4), .inl (ct 0, 8, .inl cs)), ((ra 5), .inl (ct 0, 8, .inl cg))] sz) := by
  refine enterW (by decide) (Nat.le_of_ble_eq_true rfl) ?_
  intro p e s m args below meth c ls A hx hb hr hml hown hts hlk hin hsz hAe hP hD hA hE hV hS hl
  have hl : lv_has ls 3 [(0, .ref (ra 0)), (1, .int (nI k)), (2, .int pl)] := hl
  refine lv_aload_n hx hb d_Row_setPlace_0 rfl (lv_at hl 0 rfl) ?_
  refine q_get 0 2 i_Row rfl hx hb hts hown hE hP rfl (by decide) x_152 rfl d_Row_setPlace_1 ?_
  refine lv_iload_n hx hb d_Row_setPlace_4 rfl (lv_at hl 1 rfl) ?_
  refine lv_iload_n hx hb d_Row_setPlace_5 rfl (lv_at hl 2 rfl) ?_
  obtain ⟨cp_1, ecp_1⟩ : ∃ g9 : Nat → Int32, g9 = upd cp k pl := ⟨_, rfl⟩
  refine q_iast (k := k) 2 (ws1 := [((ra 0), .inr (3, [.int (nI cnt), .ref (ra 1), .ref (ra 2), .ref (ra 3), .ref (ra 4), .ref (ra 5)])), ((ra 1), .inl (ct 0, 8, .inl ck)), ((ra 2), .inl (ct 0, 8, .inl cp_1)), ((ra 3), .inl (ct 0, 8, .inl ca)), ((ra 4), .inl (ct 0, 8, .inl cs)), ((ra 5), .inl (ct 0, 8, .inl cg))]) ecp_1 hx hb hE hP hD hS rfl rfl (by omega) (by decide) rfl d_Row_setPlace_6 (fun H locs hP hD hS => ?_)
  refine lv_aload_n hx hb d_Row_setPlace_7 rfl (lv_at hl 0 rfl) ?_
  refine q_get 0 3 i_Row rfl hx hb hts hown hE hP rfl (by decide) x_153 rfl d_Row_setPlace_8 ?_
  refine lv_iload_n hx hb d_Row_setPlace_11 rfl (lv_at hl 1 rfl) ?_
  refine lv_iload_n hx hb d_Row_setPlace_12 rfl (lv_at hl 2 rfl) ?_
  obtain ⟨ca_1, eca_1⟩ : ∃ g9 : Nat → Int32, g9 = upd ca k pl := ⟨_, rfl⟩
  refine q_iast (k := k) 3 (ws1 := [((ra 0), .inr (3, [.int (nI cnt), .ref (ra 1), .ref (ra 2), .ref (ra 3), .ref (ra 4), .ref (ra 5)])), ((ra 1), .inl (ct 0, 8, .inl ck)), ((ra 2), .inl (ct 0, 8, .inl cp_1)), ((ra 3), .inl (ct 0, 8, .inl ca_1)), ((ra 4), .inl (ct 0, 8, .inl cs)), ((ra 5), .inl (ct 0, 8, .inl cg))]) eca_1 hx hb hE hP hD hS rfl rfl (by omega) (by decide) rfl d_Row_setPlace_13 (fun H locs hP hD hS => ?_)
  exact rW_v hx hb hr hlk hAe hS hP hD (Nat.le_of_ble_eq_true rfl) (Nat.le_of_ble_eq_true rfl) d_Row_setPlace_14 ⟨cp_1, ca_1, rfl, rfl, fR_set ecp_1 eca_1⟩
set_option maxHeartbeats 4000000 in
set_option maxRecDepth 100000 in
theorem c_Row_changePlaces (l : Launch) (D : va_G) (ct : Nat → ClassId) (st : Nat → Nat) (ra : Nat → Nat) (cnt : Nat) (ck : Nat → Int32) (cp : Nat → Int32) (ca : Nat → Int32) (cs : Nat → Int32) (cg : Nat → Int32) (k : Nat) (h1 : k + 1 < 8) (sz : Nat) : Met l y_Row_changePlaces (wsy y_Row_changePlaces b_Row_changePlaces 6 (none)) (rmW 1 0 0 22) (PcW D ct st [.ref (ra 0), .int (nI k)] [((ra 0), .inr (3, [.int (nI cnt), .ref (ra 1), .ref (ra 2), .ref (ra 3), .ref (ra 4), .ref (ra 5)])), ((ra 1), .inl (ct 0, 8, .inl ck)), ((ra 2), .inl (ct 0, 8, .inl cp)), ((ra 3), .inl (ct 0, 8, .inl ca)), ((ra 4), .inl (ct 0, 8, .inl cs)), ((ra 5), .inl (ct 0, 8, .inl cg))] sz) (QcW D [((ra 0), .inr (3, [.int (nI cnt), .ref (ra 1), .ref (ra 2), .ref (ra 3), .ref (ra 4), .ref (ra 5)])), ((ra 1), .inl (ct 0, 8, .inl ck)), ((ra 2), .inl (ct 0, 8, .inl cp)), ((ra 3), .inl (ct 0, 8, .inl ca)), ((ra 4), .inl (ct 0, 8, .inl cs)), ((ra 5), .inl (ct 0, 8, .inl cg))] sz (fun v W1 => ∃ (ck1 : Nat → Int32) (cp1 : Nat → Int32) (ca1 : Nat → Int32) (cs1 : Nat → Int32) (cg1 : Nat → Int32), v = none ∧ W1 = [((ra 0), .inr (3, [.int (nI cnt), .ref (ra 1), .ref (ra 2), .ref (ra 3), .ref (ra 4), .ref (ra 5)])), ((ra 1), .inl (ct 0, 8, .inl ck1)), ((ra 2), .inl (ct 0, 8, .inl cp1)), ((ra 3), .inl (ct 0, 8, .inl ca1)), ((ra 4), .inl (ct 0, 8, .inl cs1)), ((ra 5), .inl (ct 0, 8, .inl cg1))] ∧ (∀ a j, a < 5 → j < 8 → fR ck1 cp1 cs1 cg1 ca1 a j = if j = k + 1 then (if a = 1 ∨ a = 4 then (fR ck cp cs cg ca) a (k + 1) else (fR ck cp cs cg ca) a k) else if j = k then (fR ck cp cs cg ca) a (k + 1) else (fR ck cp cs cg ca) a j))) 0 0 (va_A [((ra 0), .inr (3, [.int (nI cnt), .ref (ra 1), .ref (ra 2), .ref (ra 3), .ref (ra 4), .ref (ra 5)])), ((ra 1), .inl (ct 0, 8, .inl ck)), ((ra 2), .inl (ct 0, 8, .inl cp)), ((ra 3), .inl (ct 0, 8, .inl ca)), ((ra 4), .inl (ct 0, 8, .inl cs)), ((ra 5), .inl (ct 0, 8, .inl cg))] sz) := by
  refine enterW (by decide) (Nat.le_of_ble_eq_true rfl) ?_
  intro p e s m args below meth c ls A hx hb hr hml hown hts hlk hin hsz hAe hP hD hA hE hV hS hl
  have hl : lv_has ls 6 [(0, .ref (ra 0)), (1, .int (nI k))] := hl
  refine lv_iload_n hx hb d_Row_changePlaces_0 rfl (lv_at hl 1 rfl) ?_
  refine lv_iconst (v := 1) hx hb d_Row_changePlaces_1 (by decide) ?_
  refine q_iadd (v := nI (k + 1)) hx hb d_Row_changePlaces_2 (nI_add k 1) ?_
  refine lv_istore_n (lv' := [(2, .int (nI (k + 1))), (0, .ref (ra 0)), (1, .int (nI k))]) hx hb d_Row_changePlaces_3 rfl hl (by decide) rfl (fun ls hl => ?_)
  refine lv_aload_n hx hb d_Row_changePlaces_4 rfl (lv_at hl 1 rfl) ?_
  refine q_get 0 1 i_Row rfl hx hb hts hown hE hP rfl (by decide) x_151 rfl d_Row_changePlaces_5 ?_
  refine lv_iload_n hx hb d_Row_changePlaces_8 rfl (lv_at hl 2 rfl) ?_
  refine q_iald (k := k) 1 hx hb hE hP rfl rfl (by omega) (by decide) d_Row_changePlaces_9 ?_
  refine lv_istore_n (lv' := [(3, .int (ck k)), (2, .int (nI (k + 1))), (0, .ref (ra 0)), (1, .int (nI k))]) hx hb d_Row_changePlaces_10 rfl hl (by decide) rfl (fun ls hl => ?_)
  refine lv_aload_n hx hb d_Row_changePlaces_11 rfl (lv_at hl 2 rfl) ?_
  refine q_get 0 4 i_Row rfl hx hb hts hown hE hP rfl (by decide) x_154 rfl d_Row_changePlaces_12 ?_
  refine lv_iload_n hx hb d_Row_changePlaces_15 rfl (lv_at hl 3 rfl) ?_
  refine q_iald (k := k) 4 hx hb hE hP rfl rfl (by omega) (by decide) d_Row_changePlaces_16 ?_
  refine lv_istore (lv' := [(4, .int (cs k)), (3, .int (ck k)), (2, .int (nI (k + 1))), (0, .ref (ra 0)), (1, .int (nI k))]) hx hb d_Row_changePlaces_17 hl (by decide) rfl (fun ls hl => ?_)
  refine lv_aload_n hx hb d_Row_changePlaces_19 rfl (lv_at hl 3 rfl) ?_
  refine q_get 0 5 i_Row rfl hx hb hts hown hE hP rfl (by decide) x_155 rfl d_Row_changePlaces_20 ?_
  refine lv_iload_n hx hb d_Row_changePlaces_23 rfl (lv_at hl 4 rfl) ?_
  refine q_iald (k := k) 5 hx hb hE hP rfl rfl (by omega) (by decide) d_Row_changePlaces_24 ?_
  refine lv_istore (lv' := [(5, .int (cg k)), (4, .int (cs k)), (3, .int (ck k)), (2, .int (nI (k + 1))), (0, .ref (ra 0)), (1, .int (nI k))]) hx hb d_Row_changePlaces_25 hl (by decide) rfl (fun ls hl => ?_)
  refine lv_aload_n hx hb d_Row_changePlaces_27 rfl (lv_at hl 4 rfl) ?_
  refine lv_iload_n hx hb d_Row_changePlaces_28 rfl (lv_at hl 3 rfl) ?_
  refine lv_iload_n hx hb d_Row_changePlaces_29 rfl (lv_at hl 5 rfl) ?_
  refine cWV (As := [.int (nI (k + 1)), .int (nI k)]) (rest := []) (q9 := 0) (ci := 3) K_Row_copyFront x_646 hx hb hml hown hts hE hV hS (c_Row_copyFront l D ct st ra cnt ck cp ca cs cg (k + 1) k (by omega) (by omega) _) hP hD hA [0, 1, 2, 3, 4, 5] [] (wr := []) rfl rfl (by decide) (by decide) (by decide) rfl hP rfl rfl hl.1 rfl (Nat.le_of_ble_eq_true rfl) d_Row_changePlaces_30 (Nat.le_of_ble_eq_true rfl) (Nat.le_of_ble_eq_true rfl) ⟨Nat.le_of_ble_eq_true rfl, Nat.le_of_ble_eq_true rfl⟩ (fun v W1 H locs hpost hP hD hS => ?_)
  obtain ⟨ck1_1, cp1_1, ca1_1, cs1_1, cg1_1, rfl, rfl, hq_30⟩ := hpost
  have hP : va_P D classes [((ra 0), .inr (3, [.int (nI cnt), .ref (ra 1), .ref (ra 2), .ref (ra 3), .ref (ra 4), .ref (ra 5)])), ((ra 1), .inl (ct 0, 8, .inl ck1_1)), ((ra 2), .inl (ct 0, 8, .inl cp1_1)), ((ra 3), .inl (ct 0, 8, .inl ca1_1)), ((ra 4), .inl (ct 0, 8, .inl cs1_1)), ((ra 5), .inl (ct 0, 8, .inl cg1_1))] H := hP
  have hD : va_D A [((ra 0), .inr (3, [.int (nI cnt), .ref (ra 1), .ref (ra 2), .ref (ra 3), .ref (ra 4), .ref (ra 5)])), ((ra 1), .inl (ct 0, 8, .inl ck1_1)), ((ra 2), .inl (ct 0, 8, .inl cp1_1)), ((ra 3), .inl (ct 0, 8, .inl ca1_1)), ((ra 4), .inl (ct 0, 8, .inl cs1_1)), ((ra 5), .inl (ct 0, 8, .inl cg1_1))] := hD
  refine lv_aload_n hx hb d_Row_changePlaces_33 rfl (lv_at hl 4 rfl) ?_
  refine q_get 0 1 i_Row rfl hx hb hts hown hE hP rfl (by decide) x_151 rfl d_Row_changePlaces_34 ?_
  refine lv_iload_n hx hb d_Row_changePlaces_37 rfl (lv_at hl 3 rfl) ?_
  refine lv_iload_n hx hb d_Row_changePlaces_38 rfl (lv_at hl 2 rfl) ?_
  obtain ⟨ck_1, eck_1⟩ : ∃ g9 : Nat → Int32, g9 = upd ck1_1 (k + 1) (ck k) := ⟨_, rfl⟩
  refine q_iast (k := k + 1) 1 (ws1 := [((ra 0), .inr (3, [.int (nI cnt), .ref (ra 1), .ref (ra 2), .ref (ra 3), .ref (ra 4), .ref (ra 5)])), ((ra 1), .inl (ct 0, 8, .inl ck_1)), ((ra 2), .inl (ct 0, 8, .inl cp1_1)), ((ra 3), .inl (ct 0, 8, .inl ca1_1)), ((ra 4), .inl (ct 0, 8, .inl cs1_1)), ((ra 5), .inl (ct 0, 8, .inl cg1_1))]) eck_1 hx hb hE hP hD hS rfl rfl (by omega) (by decide) rfl d_Row_changePlaces_39 (fun H locs hP hD hS => ?_)
  refine lv_aload_n hx hb d_Row_changePlaces_40 rfl (lv_at hl 4 rfl) ?_
  refine q_get 0 4 i_Row rfl hx hb hts hown hE hP rfl (by decide) x_154 rfl d_Row_changePlaces_41 ?_
  refine lv_iload_n hx hb d_Row_changePlaces_44 rfl (lv_at hl 3 rfl) ?_
  refine lv_iload hx hb d_Row_changePlaces_45 (lv_at hl 1 rfl) ?_
  obtain ⟨cs_1, ecs_1⟩ : ∃ g9 : Nat → Int32, g9 = upd cs1_1 (k + 1) (cs k) := ⟨_, rfl⟩
  refine q_iast (k := k + 1) 4 (ws1 := [((ra 0), .inr (3, [.int (nI cnt), .ref (ra 1), .ref (ra 2), .ref (ra 3), .ref (ra 4), .ref (ra 5)])), ((ra 1), .inl (ct 0, 8, .inl ck_1)), ((ra 2), .inl (ct 0, 8, .inl cp1_1)), ((ra 3), .inl (ct 0, 8, .inl ca1_1)), ((ra 4), .inl (ct 0, 8, .inl cs_1)), ((ra 5), .inl (ct 0, 8, .inl cg1_1))]) ecs_1 hx hb hE hP hD hS rfl rfl (by omega) (by decide) rfl d_Row_changePlaces_47 (fun H locs hP hD hS => ?_)
  refine lv_aload_n hx hb d_Row_changePlaces_48 rfl (lv_at hl 4 rfl) ?_
  refine q_get 0 5 i_Row rfl hx hb hts hown hE hP rfl (by decide) x_155 rfl d_Row_changePlaces_49 ?_
  refine lv_iload_n hx hb d_Row_changePlaces_52 rfl (lv_at hl 3 rfl) ?_
  refine lv_iload hx hb d_Row_changePlaces_53 (lv_at hl 0 rfl) ?_
  obtain ⟨cg_1, ecg_1⟩ : ∃ g9 : Nat → Int32, g9 = upd cg1_1 (k + 1) (cg k) := ⟨_, rfl⟩
  refine q_iast (k := k + 1) 5 (ws1 := [((ra 0), .inr (3, [.int (nI cnt), .ref (ra 1), .ref (ra 2), .ref (ra 3), .ref (ra 4), .ref (ra 5)])), ((ra 1), .inl (ct 0, 8, .inl ck_1)), ((ra 2), .inl (ct 0, 8, .inl cp1_1)), ((ra 3), .inl (ct 0, 8, .inl ca1_1)), ((ra 4), .inl (ct 0, 8, .inl cs_1)), ((ra 5), .inl (ct 0, 8, .inl cg_1))]) ecg_1 hx hb hE hP hD hS rfl rfl (by omega) (by decide) rfl d_Row_changePlaces_55 (fun H locs hP hD hS => ?_)
  exact rW_v hx hb hr hlk hAe hS hP hD (Nat.le_of_ble_eq_true rfl) (Nat.le_of_ble_eq_true rfl) d_Row_changePlaces_56 ⟨ck_1, cp1_1, ca1_1, cs_1, cg_1, rfl, rfl, fR_turn hq_30 eck_1 ecs_1 ecg_1⟩
set_option maxHeartbeats 4000000 in
set_option maxRecDepth 100000 in
theorem c_Row_placeFor (l : Launch) (D : va_G) (ct : Nat → ClassId) (st : Nat → Nat) (ra : Nat → Nat) (cnt : Nat) (ck : Nat → Int32) (cp : Nat → Int32) (ca : Nat → Int32) (cs : Nat → Int32) (cg : Nat → Int32) (pl : Int32) (h1 : cnt ≤ 8) : Met l y_Row_placeFor (wsy y_Row_placeFor b_Row_placeFor 4 (some .int)) (k2_rm 0 0) (PcR D ct st [.ref (ra 0), .int pl] [((ra 0), .inr (3, [.int (nI cnt), .ref (ra 1), .ref (ra 2), .ref (ra 3), .ref (ra 4), .ref (ra 5)])), ((ra 1), .inl (ct 0, 8, .inl ck)), ((ra 2), .inl (ct 0, 8, .inl cp)), ((ra 3), .inl (ct 0, 8, .inl ca)), ((ra 4), .inl (ct 0, 8, .inl cs)), ((ra 5), .inl (ct 0, 8, .inl cg))]) (k2_QcV (.int (nI (r_at (fR ck cp cs cg ca) pl.toInt cnt)))) 0 0 (fun _ => False) := by
  refine enterR (by decide) (Nat.le_of_ble_eq_true rfl) ?_
  intro p e s m args below meth c ls hx hb hr hml hown hts hlk hP hE hV hS hl
  have hl : lv_has ls 4 [(0, .ref (ra 0)), (1, .int pl)] := hl
  refine lv_iconst (v := 0) hx hb d_Row_placeFor_0 (by decide) ?_
  refine q_topi (v := nI (r_at (fR ck cp cs cg ca) pl.toInt 0)) (rfl) ?_
  refine lv_istore_n (lv' := [(2, .int (nI (r_at (fR ck cp cs cg ca) pl.toInt 0))), (0, .ref (ra 0)), (1, .int pl)]) hx hb d_Row_placeFor_1 rfl hl (by decide) rfl (fun ls hl => ?_)
  refine lv_iconst (v := 0) hx hb d_Row_placeFor_2 (by decide) ?_
  refine lv_istore_n (lv' := [(3, .int 0), (2, .int (nI (r_at (fR ck cp cs cg ca) pl.toInt 0))), (0, .ref (ra 0)), (1, .int pl)]) hx hb d_Row_placeFor_3 rfl hl (by decide) rfl (fun ls hl => ?_)
  have loop_4 : ∀ (n9 : Nat) (i : Nat) (hi : i ≤ cnt) (hn9 : cnt - i < n9) (ls : Array Slot), lv_has ls 4 [(0, .ref (ra 0)), (1, .int pl), (2, .int (nI (r_at (fR ck cp cs cg ca) pl.toInt i))), (3, .int (nI i))] → W p l e (k2_rm 0 0) s m args below meth c s.heap [] 0 0 (MQ below (k2_QcV (.int (nI (r_at (fR ck cp cs cg ca) pl.toInt cnt)))) args s 0 0 (fun _ => False)) (F0 m 4 ls []) := by
    intro n9
    induction n9 with
    | zero => intro i hi hn9 ls hl; exact absurd hn9 (Nat.not_lt_zero _)
    | succ n9 ih_4 =>
      intro i hi hn9 ls hl
      refine lv_iload_n hx hb d_Row_placeFor_4 rfl (lv_at hl 3 rfl) ?_
      refine lv_aload_n hx hb d_Row_placeFor_5 rfl (lv_at hl 0 rfl) ?_
      refine q_get 0 0 i_Row rfl hx hb hts hown hE hP rfl (by decide) x_149 rfl d_Row_placeFor_6 ?_
      refine q_icmp_ge_n (a := i) (b := cnt) (tgt := 32) hx hb d_Row_placeFor_9 (by decide) rfl rfl (by omega) (by omega) (fun h_9 => ?_) (fun h_9 => ?_)
      · have hic : i = cnt := by omega
        subst hic
        refine lv_iload_n hx hb d_Row_placeFor_32 rfl (lv_at hl 2 rfl) ?_
        exact rR_i hx hb hr hlk d_Row_placeFor_33 (rfl)
      · refine lv_aload_n hx hb d_Row_placeFor_12 rfl (lv_at hl 0 rfl) ?_
        refine q_get 0 2 i_Row rfl hx hb hts hown hE hP rfl (by decide) x_152 rfl d_Row_placeFor_13 ?_
        refine lv_iload_n hx hb d_Row_placeFor_16 rfl (lv_at hl 3 rfl) ?_
        refine q_iald (k := i) 2 hx hb hE hP rfl rfl (by omega) (by decide) d_Row_placeFor_17 ?_
        refine lv_iload_n hx hb d_Row_placeFor_18 rfl (lv_at hl 1 rfl) ?_
        refine lv_icmp_gt (tgt := 26) hx hb d_Row_placeFor_19 (by decide) (fun h_19 => ?_) (fun h_19 => ?_)
        · rw [show r_at (fR ck cp cs cg ca) pl.toInt i = r_at (fR ck cp cs cg ca) pl.toInt (i + 1) from rat0 (fun z => by rw [fR1] at z; exact absurd h_19 (Int32.not_lt.mpr (Int32.le_iff_toInt_le.mpr z)))] at hl
          refine lv_iinc (v := (nI (i + 1))) (lv' := [(3, .int (nI (i + 1))), (0, .ref (ra 0)), (1, .int pl), (2, .int (nI (r_at (fR ck cp cs cg ca) pl.toInt (i + 1))))]) hx hb d_Row_placeFor_26 hl (k := 3) rfl (nI_1 _) (by decide) rfl (fun ls hl => ?_)
          refine lv_goto (tgt := 4) hx hb d_Row_placeFor_29 (by decide) ?_
          exact ih_4 (i + 1) (by omega) (by omega) ls (lv_sub hl [1, 2, 3, 0] rfl)
        · refine lv_iload_n hx hb d_Row_placeFor_22 rfl (lv_at hl 3 rfl) ?_
          refine lv_iconst (v := 1) hx hb d_Row_placeFor_23 (by decide) ?_
          refine q_iadd (v := nI (i + 1)) hx hb d_Row_placeFor_24 (nI_add i 1) ?_
          refine q_topi (v := nI (r_at (fR ck cp cs cg ca) pl.toInt (i + 1))) (congrArg nI (rat1 (by rw [fR1]; exact Int32.le_iff_toInt_le.mp (Int32.not_lt.mp h_19)))) ?_
          refine lv_istore_n (lv' := [(2, .int (nI (r_at (fR ck cp cs cg ca) pl.toInt (i + 1)))), (0, .ref (ra 0)), (1, .int pl), (3, .int (nI i))]) hx hb d_Row_placeFor_25 rfl hl (by decide) rfl (fun ls hl => ?_)
          refine lv_iinc (v := (nI (i + 1))) (lv' := [(3, .int (nI (i + 1))), (2, .int (nI (r_at (fR ck cp cs cg ca) pl.toInt (i + 1)))), (0, .ref (ra 0)), (1, .int pl)]) hx hb d_Row_placeFor_26 hl (k := 3) rfl (nI_1 _) (by decide) rfl (fun ls hl => ?_)
          refine lv_goto (tgt := 4) hx hb d_Row_placeFor_29 (by decide) ?_
          exact ih_4 (i + 1) (by omega) (by omega) ls (lv_sub hl [2, 3, 1, 0] rfl)
  exact loop_4 _ 0 (by omega) (Nat.lt_succ_self _) ls (lv_sub hl [2, 3, 1, 0] rfl)
set_option maxHeartbeats 4000000 in
set_option maxRecDepth 100000 in
theorem c_Row_putIn (l : Launch) (D : va_G) (ct : Nat → ClassId) (st : Nat → Nat) (ra : Nat → Nat) (cnt : Nat) (ck : Nat → Int32) (cp : Nat → Int32) (ca : Nat → Int32) (cs : Nat → Int32) (cg : Nat → Int32) (at9 : Nat) (kd : Int32) (pl : Int32) (sp : Int32) (tg : Int32) (h1 : at9 ≤ cnt) (hc7 : cnt < 8) (sz : Nat) : Met l y_Row_putIn (wsy y_Row_putIn b_Row_putIn 7 (none)) (rmW 1 0 0 22) (PcW D ct st [.ref (ra 0), .int (nI at9), .int kd, .int pl, .int sp, .int tg] [((ra 0), .inr (3, [.int (nI cnt), .ref (ra 1), .ref (ra 2), .ref (ra 3), .ref (ra 4), .ref (ra 5)])), ((ra 1), .inl (ct 0, 8, .inl ck)), ((ra 2), .inl (ct 0, 8, .inl cp)), ((ra 3), .inl (ct 0, 8, .inl ca)), ((ra 4), .inl (ct 0, 8, .inl cs)), ((ra 5), .inl (ct 0, 8, .inl cg))] sz) (QcW D [((ra 0), .inr (3, [.int (nI cnt), .ref (ra 1), .ref (ra 2), .ref (ra 3), .ref (ra 4), .ref (ra 5)])), ((ra 1), .inl (ct 0, 8, .inl ck)), ((ra 2), .inl (ct 0, 8, .inl cp)), ((ra 3), .inl (ct 0, 8, .inl ca)), ((ra 4), .inl (ct 0, 8, .inl cs)), ((ra 5), .inl (ct 0, 8, .inl cg))] sz (fun v W1 => ∃ (ck1 : Nat → Int32) (cp1 : Nat → Int32) (ca1 : Nat → Int32) (cs1 : Nat → Int32) (cg1 : Nat → Int32), v = none ∧ W1 = [((ra 0), .inr (3, [.int (nI (cnt + 1)), .ref (ra 1), .ref (ra 2), .ref (ra 3), .ref (ra 4), .ref (ra 5)])), ((ra 1), .inl (ct 0, 8, .inl ck1)), ((ra 2), .inl (ct 0, 8, .inl cp1)), ((ra 3), .inl (ct 0, 8, .inl ca1)), ((ra 4), .inl (ct 0, 8, .inl cs1)), ((ra 5), .inl (ct 0, 8, .inl cg1))] ∧ (Ag (cnt + 1) (fR ck1 cp1 cs1 cg1 ca1) (r_ins (fR ck cp cs cg ca) at9 (r_new kd.toInt pl.toInt sp.toInt tg.toInt))))) 0 0 (va_A [((ra 0), .inr (3, [.int (nI cnt), .ref (ra 1), .ref (ra 2), .ref (ra 3), .ref (ra 4), .ref (ra 5)])), ((ra 1), .inl (ct 0, 8, .inl ck)), ((ra 2), .inl (ct 0, 8, .inl cp)), ((ra 3), .inl (ct 0, 8, .inl ca)), ((ra 4), .inl (ct 0, 8, .inl cs)), ((ra 5), .inl (ct 0, 8, .inl cg))] sz) := by
  refine enterW (by decide) (Nat.le_of_ble_eq_true rfl) ?_
  intro p e s m args below meth c ls A hx hb hr hml hown hts hlk hin hsz hAe hP hD hA hE hV hS hl
  have hl : lv_has ls 7 [(0, .ref (ra 0)), (1, .int (nI at9)), (2, .int kd), (3, .int pl), (4, .int sp), (5, .int tg)] := hl
  refine lv_aload_n hx hb d_Row_putIn_0 rfl (lv_at hl 0 rfl) ?_
  refine q_get 0 0 i_Row rfl hx hb hts hown hE hP rfl (by decide) x_149 rfl d_Row_putIn_1 ?_
  refine lv_istore (lv' := [(6, .int (nI cnt)), (0, .ref (ra 0)), (1, .int (nI at9)), (2, .int kd), (3, .int pl), (4, .int sp), (5, .int tg)]) hx hb d_Row_putIn_4 hl (by decide) rfl (fun ls hl => ?_)
  have loop_6 : ∀ (n9 : Nat) (k : Nat) (Tck : Nat → Int32) (Tcp : Nat → Int32) (Tca : Nat → Int32) (Tcs : Nat → Int32) (Tcg : Nat → Int32) (hk : at9 ≤ k ∧ k ≤ cnt) (hT : ∀ a j, a < 5 → j < 8 → fR Tck Tcp Tcs Tcg Tca a j = if k < j ∧ j ≤ cnt then (fR ck cp cs cg ca) a (j - 1) else (fR ck cp cs cg ca) a j) (hn9 : k < n9) (H : Heap) (locs : List Loc) (ls : Array Slot), va_P D classes [((ra 0), .inr (3, [.int (nI cnt), .ref (ra 1), .ref (ra 2), .ref (ra 3), .ref (ra 4), .ref (ra 5)])), ((ra 1), .inl (ct 0, 8, .inl Tck)), ((ra 2), .inl (ct 0, 8, .inl Tcp)), ((ra 3), .inl (ct 0, 8, .inl Tca)), ((ra 4), .inl (ct 0, 8, .inl Tcs)), ((ra 5), .inl (ct 0, 8, .inl Tcg))] H → va_D A [((ra 0), .inr (3, [.int (nI cnt), .ref (ra 1), .ref (ra 2), .ref (ra 3), .ref (ra 4), .ref (ra 5)])), ((ra 1), .inl (ct 0, 8, .inl Tck)), ((ra 2), .inl (ct 0, 8, .inl Tcp)), ((ra 3), .inl (ct 0, 8, .inl Tca)), ((ra 4), .inl (ct 0, 8, .inl Tcs)), ((ra 5), .inl (ct 0, 8, .inl Tcg))] → va_S A s.heap H locs → lv_has ls 7 [(0, .ref (ra 0)), (1, .int (nI at9)), (2, .int kd), (3, .int pl), (4, .int sp), (5, .int tg), (6, .int (nI k))] → W p l e (rmW 1 0 0 22) s m args below meth c H locs (0) (0) (MQ below (QcW D [((ra 0), .inr (3, [.int (nI cnt), .ref (ra 1), .ref (ra 2), .ref (ra 3), .ref (ra 4), .ref (ra 5)])), ((ra 1), .inl (ct 0, 8, .inl ck)), ((ra 2), .inl (ct 0, 8, .inl cp)), ((ra 3), .inl (ct 0, 8, .inl ca)), ((ra 4), .inl (ct 0, 8, .inl cs)), ((ra 5), .inl (ct 0, 8, .inl cg))] sz (fun v W1 => ∃ (ck1 : Nat → Int32) (cp1 : Nat → Int32) (ca1 : Nat → Int32) (cs1 : Nat → Int32) (cg1 : Nat → Int32), v = none ∧ W1 = [((ra 0), .inr (3, [.int (nI (cnt + 1)), .ref (ra 1), .ref (ra 2), .ref (ra 3), .ref (ra 4), .ref (ra 5)])), ((ra 1), .inl (ct 0, 8, .inl ck1)), ((ra 2), .inl (ct 0, 8, .inl cp1)), ((ra 3), .inl (ct 0, 8, .inl ca1)), ((ra 4), .inl (ct 0, 8, .inl cs1)), ((ra 5), .inl (ct 0, 8, .inl cg1))] ∧ (Ag (cnt + 1) (fR ck1 cp1 cs1 cg1 ca1) (r_ins (fR ck cp cs cg ca) at9 (r_new kd.toInt pl.toInt sp.toInt tg.toInt))))) args s 0 0 A) (F0 m 6 ls []) := by
    intro n9
    induction n9 with
    | zero => intro k Tck Tcp Tca Tcs Tcg hk hT hn9 H locs ls hP hD hS hl; exact absurd hn9 (Nat.not_lt_zero _)
    | succ n9 ih_6 =>
      intro k Tck Tcp Tca Tcs Tcg hk hT hn9 H locs ls hP hD hS hl
      refine lv_iload hx hb d_Row_putIn_6 (lv_at hl 6 rfl) ?_
      refine lv_iload_n hx hb d_Row_putIn_8 rfl (lv_at hl 1 rfl) ?_
      refine q_icmp_le_n (a := k) (b := at9) (tgt := 28) hx hb d_Row_putIn_9 (by decide) rfl rfl (by omega) (by omega) (fun h_9 => ?_) (fun h_9 => ?_)
      · refine lv_aload_n hx hb d_Row_putIn_28 rfl (lv_at hl 0 rfl) ?_
        refine lv_dup hx hb d_Row_putIn_29 rfl ?_
        refine q_get 0 0 i_Row rfl hx hb hts hown hE hP rfl (by decide) x_149 rfl d_Row_putIn_30 ?_
        refine lv_iconst (v := 1) hx hb d_Row_putIn_33 (by decide) ?_
        refine q_iadd (v := nI (cnt + 1)) hx hb d_Row_putIn_34 (nI_add cnt 1) ?_
        refine q_put (ty := .int) 0 0 (ws1 := [((ra 0), .inr (3, [.int (nI (cnt + 1)), .ref (ra 1), .ref (ra 2), .ref (ra 3), .ref (ra 4), .ref (ra 5)])), ((ra 1), .inl (ct 0, 8, .inl Tck)), ((ra 2), .inl (ct 0, 8, .inl Tcp)), ((ra 3), .inl (ct 0, 8, .inl Tca)), ((ra 4), .inl (ct 0, 8, .inl Tcs)), ((ra 5), .inl (ct 0, 8, .inl Tcg))]) t_Row i_Row t_Row_ok n_Row rfl hx hb hts hown hE hP hD hS rfl (by decide) x_149 rfl (by decide +kernel) (rfl) rfl (Nat.le_of_ble_eq_true rfl) rfl d_Row_putIn_35 (fun H locs hP hD hS => ?_)
        refine lv_aload_n hx hb d_Row_putIn_38 rfl (lv_at hl 0 rfl) ?_
        refine q_get 0 1 i_Row rfl hx hb hts hown hE hP rfl (by decide) x_151 rfl d_Row_putIn_39 ?_
        refine lv_iload_n hx hb d_Row_putIn_42 rfl (lv_at hl 1 rfl) ?_
        refine lv_iload_n hx hb d_Row_putIn_43 rfl (lv_at hl 2 rfl) ?_
        obtain ⟨ck_1, eck_1⟩ : ∃ g9 : Nat → Int32, g9 = upd Tck at9 kd := ⟨_, rfl⟩
        refine q_iast (k := at9) 1 (ws1 := [((ra 0), .inr (3, [.int (nI (cnt + 1)), .ref (ra 1), .ref (ra 2), .ref (ra 3), .ref (ra 4), .ref (ra 5)])), ((ra 1), .inl (ct 0, 8, .inl ck_1)), ((ra 2), .inl (ct 0, 8, .inl Tcp)), ((ra 3), .inl (ct 0, 8, .inl Tca)), ((ra 4), .inl (ct 0, 8, .inl Tcs)), ((ra 5), .inl (ct 0, 8, .inl Tcg))]) eck_1 hx hb hE hP hD hS rfl rfl (by omega) (by decide) rfl d_Row_putIn_44 (fun H locs hP hD hS => ?_)
        refine lv_aload_n hx hb d_Row_putIn_45 rfl (lv_at hl 0 rfl) ?_
        refine q_get 0 2 i_Row rfl hx hb hts hown hE hP rfl (by decide) x_152 rfl d_Row_putIn_46 ?_
        refine lv_iload_n hx hb d_Row_putIn_49 rfl (lv_at hl 1 rfl) ?_
        refine lv_iload_n hx hb d_Row_putIn_50 rfl (lv_at hl 3 rfl) ?_
        obtain ⟨cp_1, ecp_1⟩ : ∃ g9 : Nat → Int32, g9 = upd Tcp at9 pl := ⟨_, rfl⟩
        refine q_iast (k := at9) 2 (ws1 := [((ra 0), .inr (3, [.int (nI (cnt + 1)), .ref (ra 1), .ref (ra 2), .ref (ra 3), .ref (ra 4), .ref (ra 5)])), ((ra 1), .inl (ct 0, 8, .inl ck_1)), ((ra 2), .inl (ct 0, 8, .inl cp_1)), ((ra 3), .inl (ct 0, 8, .inl Tca)), ((ra 4), .inl (ct 0, 8, .inl Tcs)), ((ra 5), .inl (ct 0, 8, .inl Tcg))]) ecp_1 hx hb hE hP hD hS rfl rfl (by omega) (by decide) rfl d_Row_putIn_51 (fun H locs hP hD hS => ?_)
        refine lv_aload_n hx hb d_Row_putIn_52 rfl (lv_at hl 0 rfl) ?_
        refine q_get 0 3 i_Row rfl hx hb hts hown hE hP rfl (by decide) x_153 rfl d_Row_putIn_53 ?_
        refine lv_iload_n hx hb d_Row_putIn_56 rfl (lv_at hl 1 rfl) ?_
        refine lv_iload_n hx hb d_Row_putIn_57 rfl (lv_at hl 3 rfl) ?_
        obtain ⟨ca_1, eca_1⟩ : ∃ g9 : Nat → Int32, g9 = upd Tca at9 pl := ⟨_, rfl⟩
        refine q_iast (k := at9) 3 (ws1 := [((ra 0), .inr (3, [.int (nI (cnt + 1)), .ref (ra 1), .ref (ra 2), .ref (ra 3), .ref (ra 4), .ref (ra 5)])), ((ra 1), .inl (ct 0, 8, .inl ck_1)), ((ra 2), .inl (ct 0, 8, .inl cp_1)), ((ra 3), .inl (ct 0, 8, .inl ca_1)), ((ra 4), .inl (ct 0, 8, .inl Tcs)), ((ra 5), .inl (ct 0, 8, .inl Tcg))]) eca_1 hx hb hE hP hD hS rfl rfl (by omega) (by decide) rfl d_Row_putIn_58 (fun H locs hP hD hS => ?_)
        refine lv_aload_n hx hb d_Row_putIn_59 rfl (lv_at hl 0 rfl) ?_
        refine q_get 0 4 i_Row rfl hx hb hts hown hE hP rfl (by decide) x_154 rfl d_Row_putIn_60 ?_
        refine lv_iload_n hx hb d_Row_putIn_63 rfl (lv_at hl 1 rfl) ?_
        refine lv_iload hx hb d_Row_putIn_64 (lv_at hl 4 rfl) ?_
        obtain ⟨cs_1, ecs_1⟩ : ∃ g9 : Nat → Int32, g9 = upd Tcs at9 sp := ⟨_, rfl⟩
        refine q_iast (k := at9) 4 (ws1 := [((ra 0), .inr (3, [.int (nI (cnt + 1)), .ref (ra 1), .ref (ra 2), .ref (ra 3), .ref (ra 4), .ref (ra 5)])), ((ra 1), .inl (ct 0, 8, .inl ck_1)), ((ra 2), .inl (ct 0, 8, .inl cp_1)), ((ra 3), .inl (ct 0, 8, .inl ca_1)), ((ra 4), .inl (ct 0, 8, .inl cs_1)), ((ra 5), .inl (ct 0, 8, .inl Tcg))]) ecs_1 hx hb hE hP hD hS rfl rfl (by omega) (by decide) rfl d_Row_putIn_66 (fun H locs hP hD hS => ?_)
        refine lv_aload_n hx hb d_Row_putIn_67 rfl (lv_at hl 0 rfl) ?_
        refine q_get 0 5 i_Row rfl hx hb hts hown hE hP rfl (by decide) x_155 rfl d_Row_putIn_68 ?_
        refine lv_iload_n hx hb d_Row_putIn_71 rfl (lv_at hl 1 rfl) ?_
        refine lv_iload hx hb d_Row_putIn_72 (lv_at hl 5 rfl) ?_
        obtain ⟨cg_1, ecg_1⟩ : ∃ g9 : Nat → Int32, g9 = upd Tcg at9 tg := ⟨_, rfl⟩
        refine q_iast (k := at9) 5 (ws1 := [((ra 0), .inr (3, [.int (nI (cnt + 1)), .ref (ra 1), .ref (ra 2), .ref (ra 3), .ref (ra 4), .ref (ra 5)])), ((ra 1), .inl (ct 0, 8, .inl ck_1)), ((ra 2), .inl (ct 0, 8, .inl cp_1)), ((ra 3), .inl (ct 0, 8, .inl ca_1)), ((ra 4), .inl (ct 0, 8, .inl cs_1)), ((ra 5), .inl (ct 0, 8, .inl cg_1))]) ecg_1 hx hb hE hP hD hS rfl rfl (by omega) (by decide) rfl d_Row_putIn_74 (fun H locs hP hD hS => ?_)
        exact rW_v hx hb hr hlk hAe hS hP hD (Nat.le_of_ble_eq_true rfl) (Nat.le_of_ble_eq_true rfl) d_Row_putIn_75 ⟨ck_1, cp_1, ca_1, cs_1, cg_1, rfl, rfl, ins_row h1 hc7 (by rw [show at9 = k by omega]; exact hT) (fR_new eck_1 ecp_1 eca_1 ecs_1 ecg_1)⟩
      · refine lv_aload_n hx hb d_Row_putIn_12 rfl (lv_at hl 0 rfl) ?_
        refine lv_iload hx hb d_Row_putIn_13 (lv_at hl 6 rfl) ?_
        refine lv_iconst (v := 1) hx hb d_Row_putIn_15 (by decide) ?_
        refine q_isub (v := nI (k - 1)) hx hb d_Row_putIn_16 (pk_sub (a := k) (b := 1) (by omega)) ?_
        refine lv_iload hx hb d_Row_putIn_17 (lv_at hl 6 rfl) ?_
        refine cWV (As := [.int (nI (k - 1)), .int (nI k)]) (rest := []) (q9 := 0) (ci := 3) K_Row_copyFront x_646 hx hb hml hown hts hE hV hS (c_Row_copyFront l D ct st ra cnt Tck Tcp Tca Tcs Tcg (k - 1) k (by omega) (by omega) _) hP hD hA [0, 1, 2, 3, 4, 5] [] (wr := []) rfl rfl (by decide) (by decide) (by decide) rfl hP rfl rfl hl.1 rfl (Nat.le_of_ble_eq_true rfl) d_Row_putIn_19 (Nat.le_of_ble_eq_true rfl) (Nat.le_of_ble_eq_true rfl) ⟨Nat.le_of_ble_eq_true rfl, Nat.le_of_ble_eq_true rfl⟩ (fun v W1 H locs hpost hP hD hS => ?_)
        obtain ⟨ck1_1, cp1_1, ca1_1, cs1_1, cg1_1, rfl, rfl, hq_19⟩ := hpost
        have hP : va_P D classes [((ra 0), .inr (3, [.int (nI cnt), .ref (ra 1), .ref (ra 2), .ref (ra 3), .ref (ra 4), .ref (ra 5)])), ((ra 1), .inl (ct 0, 8, .inl ck1_1)), ((ra 2), .inl (ct 0, 8, .inl cp1_1)), ((ra 3), .inl (ct 0, 8, .inl ca1_1)), ((ra 4), .inl (ct 0, 8, .inl cs1_1)), ((ra 5), .inl (ct 0, 8, .inl cg1_1))] H := hP
        have hD : va_D A [((ra 0), .inr (3, [.int (nI cnt), .ref (ra 1), .ref (ra 2), .ref (ra 3), .ref (ra 4), .ref (ra 5)])), ((ra 1), .inl (ct 0, 8, .inl ck1_1)), ((ra 2), .inl (ct 0, 8, .inl cp1_1)), ((ra 3), .inl (ct 0, 8, .inl ca1_1)), ((ra 4), .inl (ct 0, 8, .inl cs1_1)), ((ra 5), .inl (ct 0, 8, .inl cg1_1))] := hD
        refine lv_iinc (v := (nI (k - 1))) (lv' := [(6, .int (nI (k - 1))), (0, .ref (ra 0)), (1, .int (nI at9)), (2, .int kd), (3, .int pl), (4, .int sp), (5, .int tg)]) hx hb d_Row_putIn_22 hl (k := 6) rfl (by rw [show k = (k - 1) + 1 by omega]; exact pk_m1 _) (by decide) rfl (fun ls hl => ?_)
        refine lv_goto (tgt := 6) hx hb d_Row_putIn_25 (by decide) ?_
        exact ih_6 (k - 1) ck1_1 cp1_1 ca1_1 cs1_1 cg1_1 (by omega) (op_step (by omega) (by omega) hc7 hT hq_19) (by omega) _ _ _ hP hD hS (lv_sub hl [1, 2, 3, 4, 5, 6, 0] rfl)
  exact loop_6 _ cnt ck cp ca cs cg (by omega) (fun a j ha hj => (if_neg (by omega)).symm) (Nat.lt_succ_self _) _ _ _ hP hD hS (lv_sub hl [1, 2, 3, 4, 5, 6, 0] rfl)
set_option maxHeartbeats 4000000 in
set_option maxRecDepth 100000 in
theorem c_Row_takeOut (l : Launch) (D : va_G) (ct : Nat → ClassId) (st : Nat → Nat) (ra : Nat → Nat) (cnt : Nat) (ck : Nat → Int32) (cp : Nat → Int32) (ca : Nat → Int32) (cs : Nat → Int32) (cg : Nat → Int32) (at9 : Nat) (h1 : at9 < cnt) (hc8 : cnt ≤ 8) (sz : Nat) : Met l y_Row_takeOut (wsy y_Row_takeOut b_Row_takeOut 3 (none)) (rmW 1 0 0 22) (PcW D ct st [.ref (ra 0), .int (nI at9)] [((ra 0), .inr (3, [.int (nI cnt), .ref (ra 1), .ref (ra 2), .ref (ra 3), .ref (ra 4), .ref (ra 5)])), ((ra 1), .inl (ct 0, 8, .inl ck)), ((ra 2), .inl (ct 0, 8, .inl cp)), ((ra 3), .inl (ct 0, 8, .inl ca)), ((ra 4), .inl (ct 0, 8, .inl cs)), ((ra 5), .inl (ct 0, 8, .inl cg))] sz) (QcW D [((ra 0), .inr (3, [.int (nI cnt), .ref (ra 1), .ref (ra 2), .ref (ra 3), .ref (ra 4), .ref (ra 5)])), ((ra 1), .inl (ct 0, 8, .inl ck)), ((ra 2), .inl (ct 0, 8, .inl cp)), ((ra 3), .inl (ct 0, 8, .inl ca)), ((ra 4), .inl (ct 0, 8, .inl cs)), ((ra 5), .inl (ct 0, 8, .inl cg))] sz (fun v W1 => ∃ (ck1 : Nat → Int32) (cp1 : Nat → Int32) (ca1 : Nat → Int32) (cs1 : Nat → Int32) (cg1 : Nat → Int32), v = none ∧ W1 = [((ra 0), .inr (3, [.int (nI (cnt - 1)), .ref (ra 1), .ref (ra 2), .ref (ra 3), .ref (ra 4), .ref (ra 5)])), ((ra 1), .inl (ct 0, 8, .inl ck1)), ((ra 2), .inl (ct 0, 8, .inl cp1)), ((ra 3), .inl (ct 0, 8, .inl ca1)), ((ra 4), .inl (ct 0, 8, .inl cs1)), ((ra 5), .inl (ct 0, 8, .inl cg1))] ∧ (∀ a j, a < 5 → j < cnt - 1 → fR ck1 cp1 cs1 cg1 ca1 a j = r_rem (fR ck cp cs cg ca) at9 a j))) 0 0 (va_A [((ra 0), .inr (3, [.int (nI cnt), .ref (ra 1), .ref (ra 2), .ref (ra 3), .ref (ra 4), .ref (ra 5)])), ((ra 1), .inl (ct 0, 8, .inl ck)), ((ra 2), .inl (ct 0, 8, .inl cp)), ((ra 3), .inl (ct 0, 8, .inl ca)), ((ra 4), .inl (ct 0, 8, .inl cs)), ((ra 5), .inl (ct 0, 8, .inl cg))] sz) := by
  refine enterW (by decide) (Nat.le_of_ble_eq_true rfl) ?_
  intro p e s m args below meth c ls A hx hb hr hml hown hts hlk hin hsz hAe hP hD hA hE hV hS hl
  have hl : lv_has ls 3 [(0, .ref (ra 0)), (1, .int (nI at9))] := hl
  refine lv_aload_n hx hb d_Row_takeOut_0 rfl (lv_at hl 0 rfl) ?_
  refine lv_dup hx hb d_Row_takeOut_1 rfl ?_
  refine q_get 0 0 i_Row rfl hx hb hts hown hE hP rfl (by decide) x_149 rfl d_Row_takeOut_2 ?_
  refine lv_iconst (v := 1) hx hb d_Row_takeOut_5 (by decide) ?_
  refine q_isub (v := nI (cnt - 1)) hx hb d_Row_takeOut_6 (pk_sub (a := cnt) (b := 1) (by omega)) ?_
  refine q_put (ty := .int) 0 0 (ws1 := [((ra 0), .inr (3, [.int (nI (cnt - 1)), .ref (ra 1), .ref (ra 2), .ref (ra 3), .ref (ra 4), .ref (ra 5)])), ((ra 1), .inl (ct 0, 8, .inl ck)), ((ra 2), .inl (ct 0, 8, .inl cp)), ((ra 3), .inl (ct 0, 8, .inl ca)), ((ra 4), .inl (ct 0, 8, .inl cs)), ((ra 5), .inl (ct 0, 8, .inl cg))]) t_Row i_Row t_Row_ok n_Row rfl hx hb hts hown hE hP hD hS rfl (by decide) x_149 rfl (by decide +kernel) (rfl) rfl (Nat.le_of_ble_eq_true rfl) rfl d_Row_takeOut_7 (fun H locs hP hD hS => ?_)
  refine lv_iload_n hx hb d_Row_takeOut_10 rfl (lv_at hl 1 rfl) ?_
  refine lv_istore_n (lv' := [(2, .int (nI at9)), (0, .ref (ra 0)), (1, .int (nI at9))]) hx hb d_Row_takeOut_11 rfl hl (by decide) rfl (fun ls hl => ?_)
  have loop_12 : ∀ (n9 : Nat) (k : Nat) (Tck : Nat → Int32) (Tcp : Nat → Int32) (Tca : Nat → Int32) (Tcs : Nat → Int32) (Tcg : Nat → Int32) (hk : at9 ≤ k ∧ k < cnt) (hT : ∀ a j, a < 5 → j < 8 → fR Tck Tcp Tcs Tcg Tca a j = if at9 ≤ j ∧ j < k then (fR ck cp cs cg ca) a (j + 1) else (fR ck cp cs cg ca) a j) (hn9 : cnt - k < n9) (H : Heap) (locs : List Loc) (ls : Array Slot), va_P D classes [((ra 0), .inr (3, [.int (nI (cnt - 1)), .ref (ra 1), .ref (ra 2), .ref (ra 3), .ref (ra 4), .ref (ra 5)])), ((ra 1), .inl (ct 0, 8, .inl Tck)), ((ra 2), .inl (ct 0, 8, .inl Tcp)), ((ra 3), .inl (ct 0, 8, .inl Tca)), ((ra 4), .inl (ct 0, 8, .inl Tcs)), ((ra 5), .inl (ct 0, 8, .inl Tcg))] H → va_D A [((ra 0), .inr (3, [.int (nI (cnt - 1)), .ref (ra 1), .ref (ra 2), .ref (ra 3), .ref (ra 4), .ref (ra 5)])), ((ra 1), .inl (ct 0, 8, .inl Tck)), ((ra 2), .inl (ct 0, 8, .inl Tcp)), ((ra 3), .inl (ct 0, 8, .inl Tca)), ((ra 4), .inl (ct 0, 8, .inl Tcs)), ((ra 5), .inl (ct 0, 8, .inl Tcg))] → va_S A s.heap H locs → lv_has ls 3 [(0, .ref (ra 0)), (1, .int (nI at9)), (2, .int (nI k))] → W p l e (rmW 1 0 0 22) s m args below meth c H locs (0) (0) (MQ below (QcW D [((ra 0), .inr (3, [.int (nI cnt), .ref (ra 1), .ref (ra 2), .ref (ra 3), .ref (ra 4), .ref (ra 5)])), ((ra 1), .inl (ct 0, 8, .inl ck)), ((ra 2), .inl (ct 0, 8, .inl cp)), ((ra 3), .inl (ct 0, 8, .inl ca)), ((ra 4), .inl (ct 0, 8, .inl cs)), ((ra 5), .inl (ct 0, 8, .inl cg))] sz (fun v W1 => ∃ (ck1 : Nat → Int32) (cp1 : Nat → Int32) (ca1 : Nat → Int32) (cs1 : Nat → Int32) (cg1 : Nat → Int32), v = none ∧ W1 = [((ra 0), .inr (3, [.int (nI (cnt - 1)), .ref (ra 1), .ref (ra 2), .ref (ra 3), .ref (ra 4), .ref (ra 5)])), ((ra 1), .inl (ct 0, 8, .inl ck1)), ((ra 2), .inl (ct 0, 8, .inl cp1)), ((ra 3), .inl (ct 0, 8, .inl ca1)), ((ra 4), .inl (ct 0, 8, .inl cs1)), ((ra 5), .inl (ct 0, 8, .inl cg1))] ∧ (∀ a j, a < 5 → j < cnt - 1 → fR ck1 cp1 cs1 cg1 ca1 a j = r_rem (fR ck cp cs cg ca) at9 a j))) args s 0 0 A) (F0 m 12 ls []) := by
    intro n9
    induction n9 with
    | zero => intro k Tck Tcp Tca Tcs Tcg hk hT hn9 H locs ls hP hD hS hl; exact absurd hn9 (Nat.not_lt_zero _)
    | succ n9 ih_12 =>
      intro k Tck Tcp Tca Tcs Tcg hk hT hn9 H locs ls hP hD hS hl
      refine lv_iload_n hx hb d_Row_takeOut_12 rfl (lv_at hl 2 rfl) ?_
      refine lv_aload_n hx hb d_Row_takeOut_13 rfl (lv_at hl 0 rfl) ?_
      refine q_get 0 0 i_Row rfl hx hb hts hown hE hP rfl (by decide) x_149 rfl d_Row_takeOut_14 ?_
      refine q_icmp_ge_n (a := k) (b := cnt - 1) (tgt := 34) hx hb d_Row_takeOut_17 (by decide) rfl rfl (by omega) (by omega) (fun h_17 => ?_) (fun h_17 => ?_)
      · exact rW_v hx hb hr hlk hAe hS hP hD (Nat.le_of_ble_eq_true rfl) (Nat.le_of_ble_eq_true rfl) d_Row_takeOut_34 ⟨Tck, Tcp, Tca, Tcs, Tcg, rfl, rfl, rm_end (by omega) hc8 hT⟩
      · refine lv_aload_n hx hb d_Row_takeOut_20 rfl (lv_at hl 0 rfl) ?_
        refine lv_iload_n hx hb d_Row_takeOut_21 rfl (lv_at hl 2 rfl) ?_
        refine lv_iconst (v := 1) hx hb d_Row_takeOut_22 (by decide) ?_
        refine q_iadd (v := nI (k + 1)) hx hb d_Row_takeOut_23 (nI_add k 1) ?_
        refine lv_iload_n hx hb d_Row_takeOut_24 rfl (lv_at hl 2 rfl) ?_
        refine cWV (As := [.int (nI (k + 1)), .int (nI k)]) (rest := []) (q9 := 0) (ci := 3) K_Row_copyFront x_646 hx hb hml hown hts hE hV hS (c_Row_copyFront l D ct st ra (cnt - 1) Tck Tcp Tca Tcs Tcg (k + 1) k (by omega) (by omega) _) hP hD hA [0, 1, 2, 3, 4, 5] [] (wr := []) rfl rfl (by decide) (by decide) (by decide) rfl hP rfl rfl hl.1 rfl (Nat.le_of_ble_eq_true rfl) d_Row_takeOut_25 (Nat.le_of_ble_eq_true rfl) (Nat.le_of_ble_eq_true rfl) ⟨Nat.le_of_ble_eq_true rfl, Nat.le_of_ble_eq_true rfl⟩ (fun v W1 H locs hpost hP hD hS => ?_)
        obtain ⟨ck1_1, cp1_1, ca1_1, cs1_1, cg1_1, rfl, rfl, hq_25⟩ := hpost
        have hP : va_P D classes [((ra 0), .inr (3, [.int (nI (cnt - 1)), .ref (ra 1), .ref (ra 2), .ref (ra 3), .ref (ra 4), .ref (ra 5)])), ((ra 1), .inl (ct 0, 8, .inl ck1_1)), ((ra 2), .inl (ct 0, 8, .inl cp1_1)), ((ra 3), .inl (ct 0, 8, .inl ca1_1)), ((ra 4), .inl (ct 0, 8, .inl cs1_1)), ((ra 5), .inl (ct 0, 8, .inl cg1_1))] H := hP
        have hD : va_D A [((ra 0), .inr (3, [.int (nI (cnt - 1)), .ref (ra 1), .ref (ra 2), .ref (ra 3), .ref (ra 4), .ref (ra 5)])), ((ra 1), .inl (ct 0, 8, .inl ck1_1)), ((ra 2), .inl (ct 0, 8, .inl cp1_1)), ((ra 3), .inl (ct 0, 8, .inl ca1_1)), ((ra 4), .inl (ct 0, 8, .inl cs1_1)), ((ra 5), .inl (ct 0, 8, .inl cg1_1))] := hD
        refine lv_iinc (v := (nI (k + 1))) (lv' := [(2, .int (nI (k + 1))), (0, .ref (ra 0)), (1, .int (nI at9))]) hx hb d_Row_takeOut_28 hl (k := 2) rfl (nI_1 _) (by decide) rfl (fun ls hl => ?_)
        refine lv_goto (tgt := 12) hx hb d_Row_takeOut_31 (by decide) ?_
        exact ih_12 (k + 1) ck1_1 cp1_1 ca1_1 cs1_1 cg1_1 (by omega) (rm_step (by omega) (by omega) hT hq_25) (by omega) _ _ _ hP hD hS (lv_sub hl [1, 2, 0] rfl)
  exact loop_12 _ at9 ck cp ca cs cg (by omega) (fun a j ha hj => (if_neg (by omega)).symm) (Nat.lt_succ_self _) _ _ _ hP hD hS (lv_sub hl [1, 2, 0] rfl)
set_option maxHeartbeats 4000000 in
set_option maxRecDepth 100000 in
theorem c_Row_isMeeting (l : Launch) (D : va_G) (ct : Nat → ClassId) (st : Nat → Nat) (ra : Nat → Nat) (cnt : Nat) (ck : Nat → Int32) (cp : Nat → Int32) (ca : Nat → Int32) (cs : Nat → Int32) (cg : Nat → Int32) (k : Nat) (h1 : k + 1 < 8) : Met l y_Row_isMeeting (wsy y_Row_isMeeting b_Row_isMeeting 2 (some .boolean)) (k2_rm 0 0) (PcR D ct st [.ref (ra 0), .int (nI k)] [((ra 0), .inr (3, [.int (nI cnt), .ref (ra 1), .ref (ra 2), .ref (ra 3), .ref (ra 4), .ref (ra 5)])), ((ra 1), .inl (ct 0, 8, .inl ck)), ((ra 2), .inl (ct 0, 8, .inl cp)), ((ra 3), .inl (ct 0, 8, .inl ca)), ((ra 4), .inl (ct 0, 8, .inl cs)), ((ra 5), .inl (ct 0, 8, .inl cg))]) (k2_QcV (.int (bI (mt_on (fR ck cp cs cg ca) k)))) 0 0 (fun _ => False) := by
  refine enterR (by decide) (Nat.le_of_ble_eq_true rfl) ?_
  intro p e s m args below meth c ls hx hb hr hml hown hts hlk hP hE hV hS hl
  have hl : lv_has ls 2 [(0, .ref (ra 0)), (1, .int (nI k))] := hl
  refine lv_aload_n hx hb d_Row_isMeeting_0 rfl (lv_at hl 0 rfl) ?_
  refine q_get 0 2 i_Row rfl hx hb hts hown hE hP rfl (by decide) x_152 rfl d_Row_isMeeting_1 ?_
  refine lv_iload_n hx hb d_Row_isMeeting_4 rfl (lv_at hl 1 rfl) ?_
  refine q_iald (k := k) 2 hx hb hE hP rfl rfl (by omega) (by decide) d_Row_isMeeting_5 ?_
  refine lv_aload_n hx hb d_Row_isMeeting_6 rfl (lv_at hl 0 rfl) ?_
  refine q_get 0 2 i_Row rfl hx hb hts hown hE hP rfl (by decide) x_152 rfl d_Row_isMeeting_7 ?_
  refine lv_iload_n hx hb d_Row_isMeeting_10 rfl (lv_at hl 1 rfl) ?_
  refine lv_iconst (v := 1) hx hb d_Row_isMeeting_11 (by decide) ?_
  refine q_iadd (v := nI (k + 1)) hx hb d_Row_isMeeting_12 (nI_add k 1) ?_
  refine q_iald (k := k + 1) 2 hx hb hE hP rfl rfl (by omega) (by decide) d_Row_isMeeting_13 ?_
  refine lv_icmp_gt (tgt := 51) hx hb d_Row_isMeeting_14 (by decide) (fun h_14 => ?_) (fun h_14 => ?_)
  · refine lv_iconst (v := 1) hx hb d_Row_isMeeting_51 (by decide) ?_
    refine lv_goto (tgt := 56) hx hb d_Row_isMeeting_52 (by decide) ?_
    exact rR_z hx hb hr hlk d_Row_isMeeting_56 (bI_1 (by unfold mt_on; rw [fR1, fR1, fR4, fR4]; simp only [Int32.lt_iff_toInt_lt, ← Int32.toInt_inj, Int32.not_lt, Int32.le_iff_toInt_le] at *; omega))
  · refine lv_aload_n hx hb d_Row_isMeeting_17 rfl (lv_at hl 0 rfl) ?_
    refine q_get 0 2 i_Row rfl hx hb hts hown hE hP rfl (by decide) x_152 rfl d_Row_isMeeting_18 ?_
    refine lv_iload_n hx hb d_Row_isMeeting_21 rfl (lv_at hl 1 rfl) ?_
    refine q_iald (k := k) 2 hx hb hE hP rfl rfl (by omega) (by decide) d_Row_isMeeting_22 ?_
    refine lv_aload_n hx hb d_Row_isMeeting_23 rfl (lv_at hl 0 rfl) ?_
    refine q_get 0 2 i_Row rfl hx hb hts hown hE hP rfl (by decide) x_152 rfl d_Row_isMeeting_24 ?_
    refine lv_iload_n hx hb d_Row_isMeeting_27 rfl (lv_at hl 1 rfl) ?_
    refine lv_iconst (v := 1) hx hb d_Row_isMeeting_28 (by decide) ?_
    refine q_iadd (v := nI (k + 1)) hx hb d_Row_isMeeting_29 (nI_add k 1) ?_
    refine q_iald (k := k + 1) 2 hx hb hE hP rfl rfl (by omega) (by decide) d_Row_isMeeting_30 ?_
    refine lv_icmp_ne (tgt := 55) hx hb d_Row_isMeeting_31 (by decide) (fun h_31 => ?_) (fun h_31 => ?_)
    · refine lv_iconst (v := 0) hx hb d_Row_isMeeting_55 (by decide) ?_
      exact rR_z hx hb hr hlk d_Row_isMeeting_56 (bI_0 (by unfold mt_on; rw [fR1, fR1, fR4, fR4]; simp only [Int32.lt_iff_toInt_lt, ← Int32.toInt_inj, Int32.not_lt, Int32.le_iff_toInt_le] at *; omega))
    · refine lv_aload_n hx hb d_Row_isMeeting_34 rfl (lv_at hl 0 rfl) ?_
      refine q_get 0 3 i_Row rfl hx hb hts hown hE hP rfl (by decide) x_153 rfl d_Row_isMeeting_35 ?_
      refine lv_iload_n hx hb d_Row_isMeeting_38 rfl (lv_at hl 1 rfl) ?_
      refine q_iald (k := k) 3 hx hb hE hP rfl rfl (by omega) (by decide) d_Row_isMeeting_39 ?_
      refine lv_aload_n hx hb d_Row_isMeeting_40 rfl (lv_at hl 0 rfl) ?_
      refine q_get 0 3 i_Row rfl hx hb hts hown hE hP rfl (by decide) x_153 rfl d_Row_isMeeting_41 ?_
      refine lv_iload_n hx hb d_Row_isMeeting_44 rfl (lv_at hl 1 rfl) ?_
      refine lv_iconst (v := 1) hx hb d_Row_isMeeting_45 (by decide) ?_
      refine q_iadd (v := nI (k + 1)) hx hb d_Row_isMeeting_46 (nI_add k 1) ?_
      refine q_iald (k := k + 1) 3 hx hb hE hP rfl rfl (by omega) (by decide) d_Row_isMeeting_47 ?_
      refine lv_icmp_ge (tgt := 55) hx hb d_Row_isMeeting_48 (by decide) (fun h_48 => ?_) (fun h_48 => ?_)
      · refine lv_iconst (v := 0) hx hb d_Row_isMeeting_55 (by decide) ?_
        exact rR_z hx hb hr hlk d_Row_isMeeting_56 (bI_0 (by unfold mt_on; rw [fR1, fR1, fR4, fR4]; simp only [Int32.lt_iff_toInt_lt, ← Int32.toInt_inj, Int32.not_lt, Int32.le_iff_toInt_le] at *; omega))
      · refine lv_iconst (v := 1) hx hb d_Row_isMeeting_51 (by decide) ?_
        refine lv_goto (tgt := 56) hx hb d_Row_isMeeting_52 (by decide) ?_
        exact rR_z hx hb hr hlk d_Row_isMeeting_56 (bI_1 (by unfold mt_on; rw [fR1, fR1, fR4, fR4]; simp only [Int32.lt_iff_toInt_lt, ← Int32.toInt_inj, Int32.not_lt, Int32.le_iff_toInt_le] at *; omega))
set_option maxHeartbeats 4000000 in
set_option maxRecDepth 100000 in
theorem c_Row_copyFrom (l : Launch) (D : va_G) (ct : Nat → ClassId) (st : Nat → Nat) (ra : Nat → Nat) (cnt : Nat) (ck : Nat → Int32) (cp : Nat → Int32) (ca : Nat → Int32) (cs : Nat → Int32) (cg : Nat → Int32) (rb : Nat → Nat) (cntB : Nat) (ckB : Nat → Int32) (cpB : Nat → Int32) (caB : Nat → Int32) (csB : Nat → Int32) (cgB : Nat → Int32) (sz : Nat) : Met l y_Row_copyFrom (wsy y_Row_copyFrom b_Row_copyFrom 2 (none)) (rmW 2 0 0 85) (PcW D ct st [.ref (ra 0), .ref (rb 0)] [((ra 0), .inr (3, [.int (nI cnt), .ref (ra 1), .ref (ra 2), .ref (ra 3), .ref (ra 4), .ref (ra 5)])), ((ra 1), .inl (ct 0, 8, .inl ck)), ((ra 2), .inl (ct 0, 8, .inl cp)), ((ra 3), .inl (ct 0, 8, .inl ca)), ((ra 4), .inl (ct 0, 8, .inl cs)), ((ra 5), .inl (ct 0, 8, .inl cg)), ((rb 0), .inr (3, [.int (nI cntB), .ref (rb 1), .ref (rb 2), .ref (rb 3), .ref (rb 4), .ref (rb 5)])), ((rb 1), .inl (ct 0, 8, .inl ckB)), ((rb 2), .inl (ct 0, 8, .inl cpB)), ((rb 3), .inl (ct 0, 8, .inl caB)), ((rb 4), .inl (ct 0, 8, .inl csB)), ((rb 5), .inl (ct 0, 8, .inl cgB))] sz) (QcW D [((ra 0), .inr (3, [.int (nI cnt), .ref (ra 1), .ref (ra 2), .ref (ra 3), .ref (ra 4), .ref (ra 5)])), ((ra 1), .inl (ct 0, 8, .inl ck)), ((ra 2), .inl (ct 0, 8, .inl cp)), ((ra 3), .inl (ct 0, 8, .inl ca)), ((ra 4), .inl (ct 0, 8, .inl cs)), ((ra 5), .inl (ct 0, 8, .inl cg)), ((rb 0), .inr (3, [.int (nI cntB), .ref (rb 1), .ref (rb 2), .ref (rb 3), .ref (rb 4), .ref (rb 5)])), ((rb 1), .inl (ct 0, 8, .inl ckB)), ((rb 2), .inl (ct 0, 8, .inl cpB)), ((rb 3), .inl (ct 0, 8, .inl caB)), ((rb 4), .inl (ct 0, 8, .inl csB)), ((rb 5), .inl (ct 0, 8, .inl cgB))] sz (fun v W1 => v = none ∧ W1 = [((ra 0), .inr (3, [.int (nI cntB), .ref (ra 1), .ref (ra 2), .ref (ra 3), .ref (ra 4), .ref (ra 5)])), ((ra 1), .inl (ct 0, 8, .inl (fun j => if j < 8 then ckB j else ck j))), ((ra 2), .inl (ct 0, 8, .inl (fun j => if j < 8 then cpB j else cp j))), ((ra 3), .inl (ct 0, 8, .inl (fun j => if j < 8 then caB j else ca j))), ((ra 4), .inl (ct 0, 8, .inl (fun j => if j < 8 then csB j else cs j))), ((ra 5), .inl (ct 0, 8, .inl (fun j => if j < 8 then cgB j else cg j))), ((rb 0), .inr (3, [.int (nI cntB), .ref (rb 1), .ref (rb 2), .ref (rb 3), .ref (rb 4), .ref (rb 5)])), ((rb 1), .inl (ct 0, 8, .inl ckB)), ((rb 2), .inl (ct 0, 8, .inl cpB)), ((rb 3), .inl (ct 0, 8, .inl caB)), ((rb 4), .inl (ct 0, 8, .inl csB)), ((rb 5), .inl (ct 0, 8, .inl cgB))] ∧ (True))) 0 0 (va_A [((ra 0), .inr (3, [.int (nI cnt), .ref (ra 1), .ref (ra 2), .ref (ra 3), .ref (ra 4), .ref (ra 5)])), ((ra 1), .inl (ct 0, 8, .inl ck)), ((ra 2), .inl (ct 0, 8, .inl cp)), ((ra 3), .inl (ct 0, 8, .inl ca)), ((ra 4), .inl (ct 0, 8, .inl cs)), ((ra 5), .inl (ct 0, 8, .inl cg)), ((rb 0), .inr (3, [.int (nI cntB), .ref (rb 1), .ref (rb 2), .ref (rb 3), .ref (rb 4), .ref (rb 5)])), ((rb 1), .inl (ct 0, 8, .inl ckB)), ((rb 2), .inl (ct 0, 8, .inl cpB)), ((rb 3), .inl (ct 0, 8, .inl caB)), ((rb 4), .inl (ct 0, 8, .inl csB)), ((rb 5), .inl (ct 0, 8, .inl cgB))] sz) := by
  refine enterW (by decide) (Nat.le_of_ble_eq_true rfl) ?_
  intro p e s m args below meth c ls A hx hb hr hml hown hts hlk hin hsz hAe hP hD hA hE hV hS hl
  have hl : lv_has ls 2 [(0, .ref (ra 0)), (1, .ref (rb 0))] := hl
  refine lv_aload_n hx hb d_Row_copyFrom_0 rfl (lv_at hl 0 rfl) ?_
  refine lv_aload_n hx hb d_Row_copyFrom_1 rfl (lv_at hl 1 rfl) ?_
  refine q_get 6 0 i_Row rfl hx hb hts hown hE hP rfl (by decide) x_149 rfl d_Row_copyFrom_2 ?_
  refine q_put (ty := .int) 0 0 (ws1 := [((ra 0), .inr (3, [.int (nI cntB), .ref (ra 1), .ref (ra 2), .ref (ra 3), .ref (ra 4), .ref (ra 5)])), ((ra 1), .inl (ct 0, 8, .inl ck)), ((ra 2), .inl (ct 0, 8, .inl cp)), ((ra 3), .inl (ct 0, 8, .inl ca)), ((ra 4), .inl (ct 0, 8, .inl cs)), ((ra 5), .inl (ct 0, 8, .inl cg)), ((rb 0), .inr (3, [.int (nI cntB), .ref (rb 1), .ref (rb 2), .ref (rb 3), .ref (rb 4), .ref (rb 5)])), ((rb 1), .inl (ct 0, 8, .inl ckB)), ((rb 2), .inl (ct 0, 8, .inl cpB)), ((rb 3), .inl (ct 0, 8, .inl caB)), ((rb 4), .inl (ct 0, 8, .inl csB)), ((rb 5), .inl (ct 0, 8, .inl cgB))]) t_Row i_Row t_Row_ok n_Row rfl hx hb hts hown hE hP hD hS rfl (by decide) x_149 rfl (by decide +kernel) (rfl) rfl (Nat.le_of_ble_eq_true rfl) rfl d_Row_copyFrom_5 (fun H locs hP hD hS => ?_)
  refine lv_aload_n hx hb d_Row_copyFrom_8 rfl (lv_at hl 1 rfl) ?_
  refine q_get 6 1 i_Row rfl hx hb hts hown hE hP rfl (by decide) x_151 rfl d_Row_copyFrom_9 ?_
  refine lv_aload_n hx hb d_Row_copyFrom_12 rfl (lv_at hl 0 rfl) ?_
  refine q_get 0 1 i_Row rfl hx hb hts hown hE hP rfl (by decide) x_151 rfl d_Row_copyFrom_13 ?_
  refine cWSN (As := [.ref (rb 1), .ref (ra 1)]) (rest := []) K_X_copyRow_0 nw_819 hx hb hml hown hts hE hV hS (c_X_copyRow_0 l D ct st (rb 1) (ra 1) 8 ckB ck (by omega) _) hP hD hA [7, 1] [0, 2, 3, 4, 5, 6, 8, 9, 10, 11] (wr := [((ra 0), .inr (3, [.int (nI cntB), .ref (ra 1), .ref (ra 2), .ref (ra 3), .ref (ra 4), .ref (ra 5)])), ((ra 2), .inl (ct 0, 8, .inl cp)), ((ra 3), .inl (ct 0, 8, .inl ca)), ((ra 4), .inl (ct 0, 8, .inl cs)), ((ra 5), .inl (ct 0, 8, .inl cg)), ((rb 0), .inr (3, [.int (nI cntB), .ref (rb 1), .ref (rb 2), .ref (rb 3), .ref (rb 4), .ref (rb 5)])), ((rb 2), .inl (ct 0, 8, .inl cpB)), ((rb 3), .inl (ct 0, 8, .inl caB)), ((rb 4), .inl (ct 0, 8, .inl csB)), ((rb 5), .inl (ct 0, 8, .inl cgB))]) rfl rfl (by decide) (by decide) (by decide) rfl hl.1 rfl (Nat.le_of_ble_eq_true rfl) d_Row_copyFrom_16 (Nat.le_of_ble_eq_true rfl) (Nat.le_of_ble_eq_true rfl) ⟨Nat.le_of_ble_eq_true rfl, Nat.le_of_ble_eq_true rfl⟩ (fun v W1 H locs hpost hP hD hS => ?_)
  obtain ⟨rfl, rfl, hq_16⟩ := hpost
  have hP : va_P D classes [((ra 0), .inr (3, [.int (nI cntB), .ref (ra 1), .ref (ra 2), .ref (ra 3), .ref (ra 4), .ref (ra 5)])), ((ra 2), .inl (ct 0, 8, .inl cp)), ((ra 3), .inl (ct 0, 8, .inl ca)), ((ra 4), .inl (ct 0, 8, .inl cs)), ((ra 5), .inl (ct 0, 8, .inl cg)), ((rb 0), .inr (3, [.int (nI cntB), .ref (rb 1), .ref (rb 2), .ref (rb 3), .ref (rb 4), .ref (rb 5)])), ((rb 2), .inl (ct 0, 8, .inl cpB)), ((rb 3), .inl (ct 0, 8, .inl caB)), ((rb 4), .inl (ct 0, 8, .inl csB)), ((rb 5), .inl (ct 0, 8, .inl cgB)), ((rb 1), .inl (ct 0, 8, .inl ckB)), ((ra 1), .inl (ct 0, 8, .inl (fun j => if j < 8 then ckB j else ck j)))] H := hP
  have hD : va_D A [((ra 0), .inr (3, [.int (nI cntB), .ref (ra 1), .ref (ra 2), .ref (ra 3), .ref (ra 4), .ref (ra 5)])), ((ra 2), .inl (ct 0, 8, .inl cp)), ((ra 3), .inl (ct 0, 8, .inl ca)), ((ra 4), .inl (ct 0, 8, .inl cs)), ((ra 5), .inl (ct 0, 8, .inl cg)), ((rb 0), .inr (3, [.int (nI cntB), .ref (rb 1), .ref (rb 2), .ref (rb 3), .ref (rb 4), .ref (rb 5)])), ((rb 2), .inl (ct 0, 8, .inl cpB)), ((rb 3), .inl (ct 0, 8, .inl caB)), ((rb 4), .inl (ct 0, 8, .inl csB)), ((rb 5), .inl (ct 0, 8, .inl cgB)), ((rb 1), .inl (ct 0, 8, .inl ckB)), ((ra 1), .inl (ct 0, 8, .inl (fun j => if j < 8 then ckB j else ck j)))] := hD
  refine lv_aload_n hx hb d_Row_copyFrom_19 rfl (lv_at hl 1 rfl) ?_
  refine q_get 5 2 i_Row rfl hx hb hts hown hE hP rfl (by decide) x_152 rfl d_Row_copyFrom_20 ?_
  refine lv_aload_n hx hb d_Row_copyFrom_23 rfl (lv_at hl 0 rfl) ?_
  refine q_get 0 2 i_Row rfl hx hb hts hown hE hP rfl (by decide) x_152 rfl d_Row_copyFrom_24 ?_
  refine cWSN (As := [.ref (rb 2), .ref (ra 2)]) (rest := []) K_X_copyRow_0 nw_819 hx hb hml hown hts hE hV hS (c_X_copyRow_0 l D ct st (rb 2) (ra 2) 8 cpB cp (by omega) _) hP hD hA [6, 1] [0, 2, 3, 4, 5, 7, 8, 9, 10, 11] (wr := [((ra 0), .inr (3, [.int (nI cntB), .ref (ra 1), .ref (ra 2), .ref (ra 3), .ref (ra 4), .ref (ra 5)])), ((ra 3), .inl (ct 0, 8, .inl ca)), ((ra 4), .inl (ct 0, 8, .inl cs)), ((ra 5), .inl (ct 0, 8, .inl cg)), ((rb 0), .inr (3, [.int (nI cntB), .ref (rb 1), .ref (rb 2), .ref (rb 3), .ref (rb 4), .ref (rb 5)])), ((rb 3), .inl (ct 0, 8, .inl caB)), ((rb 4), .inl (ct 0, 8, .inl csB)), ((rb 5), .inl (ct 0, 8, .inl cgB)), ((rb 1), .inl (ct 0, 8, .inl ckB)), ((ra 1), .inl (ct 0, 8, .inl (fun j => if j < 8 then ckB j else ck j)))]) rfl rfl (by decide) (by decide) (by decide) rfl hl.1 rfl (Nat.le_of_ble_eq_true rfl) d_Row_copyFrom_27 (Nat.le_of_ble_eq_true rfl) (Nat.le_of_ble_eq_true rfl) ⟨Nat.le_of_ble_eq_true rfl, Nat.le_of_ble_eq_true rfl⟩ (fun v W1 H locs hpost hP hD hS => ?_)
  obtain ⟨rfl, rfl, hq_27⟩ := hpost
  have hP : va_P D classes [((ra 0), .inr (3, [.int (nI cntB), .ref (ra 1), .ref (ra 2), .ref (ra 3), .ref (ra 4), .ref (ra 5)])), ((ra 3), .inl (ct 0, 8, .inl ca)), ((ra 4), .inl (ct 0, 8, .inl cs)), ((ra 5), .inl (ct 0, 8, .inl cg)), ((rb 0), .inr (3, [.int (nI cntB), .ref (rb 1), .ref (rb 2), .ref (rb 3), .ref (rb 4), .ref (rb 5)])), ((rb 3), .inl (ct 0, 8, .inl caB)), ((rb 4), .inl (ct 0, 8, .inl csB)), ((rb 5), .inl (ct 0, 8, .inl cgB)), ((rb 1), .inl (ct 0, 8, .inl ckB)), ((ra 1), .inl (ct 0, 8, .inl (fun j => if j < 8 then ckB j else ck j))), ((rb 2), .inl (ct 0, 8, .inl cpB)), ((ra 2), .inl (ct 0, 8, .inl (fun j => if j < 8 then cpB j else cp j)))] H := hP
  have hD : va_D A [((ra 0), .inr (3, [.int (nI cntB), .ref (ra 1), .ref (ra 2), .ref (ra 3), .ref (ra 4), .ref (ra 5)])), ((ra 3), .inl (ct 0, 8, .inl ca)), ((ra 4), .inl (ct 0, 8, .inl cs)), ((ra 5), .inl (ct 0, 8, .inl cg)), ((rb 0), .inr (3, [.int (nI cntB), .ref (rb 1), .ref (rb 2), .ref (rb 3), .ref (rb 4), .ref (rb 5)])), ((rb 3), .inl (ct 0, 8, .inl caB)), ((rb 4), .inl (ct 0, 8, .inl csB)), ((rb 5), .inl (ct 0, 8, .inl cgB)), ((rb 1), .inl (ct 0, 8, .inl ckB)), ((ra 1), .inl (ct 0, 8, .inl (fun j => if j < 8 then ckB j else ck j))), ((rb 2), .inl (ct 0, 8, .inl cpB)), ((ra 2), .inl (ct 0, 8, .inl (fun j => if j < 8 then cpB j else cp j)))] := hD
  refine lv_aload_n hx hb d_Row_copyFrom_30 rfl (lv_at hl 1 rfl) ?_
  refine q_get 4 3 i_Row rfl hx hb hts hown hE hP rfl (by decide) x_153 rfl d_Row_copyFrom_31 ?_
  refine lv_aload_n hx hb d_Row_copyFrom_34 rfl (lv_at hl 0 rfl) ?_
  refine q_get 0 3 i_Row rfl hx hb hts hown hE hP rfl (by decide) x_153 rfl d_Row_copyFrom_35 ?_
  refine cWSN (As := [.ref (rb 3), .ref (ra 3)]) (rest := []) K_X_copyRow_0 nw_819 hx hb hml hown hts hE hV hS (c_X_copyRow_0 l D ct st (rb 3) (ra 3) 8 caB ca (by omega) _) hP hD hA [5, 1] [0, 2, 3, 4, 6, 7, 8, 9, 10, 11] (wr := [((ra 0), .inr (3, [.int (nI cntB), .ref (ra 1), .ref (ra 2), .ref (ra 3), .ref (ra 4), .ref (ra 5)])), ((ra 4), .inl (ct 0, 8, .inl cs)), ((ra 5), .inl (ct 0, 8, .inl cg)), ((rb 0), .inr (3, [.int (nI cntB), .ref (rb 1), .ref (rb 2), .ref (rb 3), .ref (rb 4), .ref (rb 5)])), ((rb 4), .inl (ct 0, 8, .inl csB)), ((rb 5), .inl (ct 0, 8, .inl cgB)), ((rb 1), .inl (ct 0, 8, .inl ckB)), ((ra 1), .inl (ct 0, 8, .inl (fun j => if j < 8 then ckB j else ck j))), ((rb 2), .inl (ct 0, 8, .inl cpB)), ((ra 2), .inl (ct 0, 8, .inl (fun j => if j < 8 then cpB j else cp j)))]) rfl rfl (by decide) (by decide) (by decide) rfl hl.1 rfl (Nat.le_of_ble_eq_true rfl) d_Row_copyFrom_38 (Nat.le_of_ble_eq_true rfl) (Nat.le_of_ble_eq_true rfl) ⟨Nat.le_of_ble_eq_true rfl, Nat.le_of_ble_eq_true rfl⟩ (fun v W1 H locs hpost hP hD hS => ?_)
  obtain ⟨rfl, rfl, hq_38⟩ := hpost
  have hP : va_P D classes [((ra 0), .inr (3, [.int (nI cntB), .ref (ra 1), .ref (ra 2), .ref (ra 3), .ref (ra 4), .ref (ra 5)])), ((ra 4), .inl (ct 0, 8, .inl cs)), ((ra 5), .inl (ct 0, 8, .inl cg)), ((rb 0), .inr (3, [.int (nI cntB), .ref (rb 1), .ref (rb 2), .ref (rb 3), .ref (rb 4), .ref (rb 5)])), ((rb 4), .inl (ct 0, 8, .inl csB)), ((rb 5), .inl (ct 0, 8, .inl cgB)), ((rb 1), .inl (ct 0, 8, .inl ckB)), ((ra 1), .inl (ct 0, 8, .inl (fun j => if j < 8 then ckB j else ck j))), ((rb 2), .inl (ct 0, 8, .inl cpB)), ((ra 2), .inl (ct 0, 8, .inl (fun j => if j < 8 then cpB j else cp j))), ((rb 3), .inl (ct 0, 8, .inl caB)), ((ra 3), .inl (ct 0, 8, .inl (fun j => if j < 8 then caB j else ca j)))] H := hP
  have hD : va_D A [((ra 0), .inr (3, [.int (nI cntB), .ref (ra 1), .ref (ra 2), .ref (ra 3), .ref (ra 4), .ref (ra 5)])), ((ra 4), .inl (ct 0, 8, .inl cs)), ((ra 5), .inl (ct 0, 8, .inl cg)), ((rb 0), .inr (3, [.int (nI cntB), .ref (rb 1), .ref (rb 2), .ref (rb 3), .ref (rb 4), .ref (rb 5)])), ((rb 4), .inl (ct 0, 8, .inl csB)), ((rb 5), .inl (ct 0, 8, .inl cgB)), ((rb 1), .inl (ct 0, 8, .inl ckB)), ((ra 1), .inl (ct 0, 8, .inl (fun j => if j < 8 then ckB j else ck j))), ((rb 2), .inl (ct 0, 8, .inl cpB)), ((ra 2), .inl (ct 0, 8, .inl (fun j => if j < 8 then cpB j else cp j))), ((rb 3), .inl (ct 0, 8, .inl caB)), ((ra 3), .inl (ct 0, 8, .inl (fun j => if j < 8 then caB j else ca j)))] := hD
  refine lv_aload_n hx hb d_Row_copyFrom_41 rfl (lv_at hl 1 rfl) ?_
  refine q_get 3 4 i_Row rfl hx hb hts hown hE hP rfl (by decide) x_154 rfl d_Row_copyFrom_42 ?_
  refine lv_aload_n hx hb d_Row_copyFrom_45 rfl (lv_at hl 0 rfl) ?_
  refine q_get 0 4 i_Row rfl hx hb hts hown hE hP rfl (by decide) x_154 rfl d_Row_copyFrom_46 ?_
  refine cWSN (As := [.ref (rb 4), .ref (ra 4)]) (rest := []) K_X_copyRow_0 nw_819 hx hb hml hown hts hE hV hS (c_X_copyRow_0 l D ct st (rb 4) (ra 4) 8 csB cs (by omega) _) hP hD hA [4, 1] [0, 2, 3, 5, 6, 7, 8, 9, 10, 11] (wr := [((ra 0), .inr (3, [.int (nI cntB), .ref (ra 1), .ref (ra 2), .ref (ra 3), .ref (ra 4), .ref (ra 5)])), ((ra 5), .inl (ct 0, 8, .inl cg)), ((rb 0), .inr (3, [.int (nI cntB), .ref (rb 1), .ref (rb 2), .ref (rb 3), .ref (rb 4), .ref (rb 5)])), ((rb 5), .inl (ct 0, 8, .inl cgB)), ((rb 1), .inl (ct 0, 8, .inl ckB)), ((ra 1), .inl (ct 0, 8, .inl (fun j => if j < 8 then ckB j else ck j))), ((rb 2), .inl (ct 0, 8, .inl cpB)), ((ra 2), .inl (ct 0, 8, .inl (fun j => if j < 8 then cpB j else cp j))), ((rb 3), .inl (ct 0, 8, .inl caB)), ((ra 3), .inl (ct 0, 8, .inl (fun j => if j < 8 then caB j else ca j)))]) rfl rfl (by decide) (by decide) (by decide) rfl hl.1 rfl (Nat.le_of_ble_eq_true rfl) d_Row_copyFrom_49 (Nat.le_of_ble_eq_true rfl) (Nat.le_of_ble_eq_true rfl) ⟨Nat.le_of_ble_eq_true rfl, Nat.le_of_ble_eq_true rfl⟩ (fun v W1 H locs hpost hP hD hS => ?_)
  obtain ⟨rfl, rfl, hq_49⟩ := hpost
  have hP : va_P D classes [((ra 0), .inr (3, [.int (nI cntB), .ref (ra 1), .ref (ra 2), .ref (ra 3), .ref (ra 4), .ref (ra 5)])), ((ra 5), .inl (ct 0, 8, .inl cg)), ((rb 0), .inr (3, [.int (nI cntB), .ref (rb 1), .ref (rb 2), .ref (rb 3), .ref (rb 4), .ref (rb 5)])), ((rb 5), .inl (ct 0, 8, .inl cgB)), ((rb 1), .inl (ct 0, 8, .inl ckB)), ((ra 1), .inl (ct 0, 8, .inl (fun j => if j < 8 then ckB j else ck j))), ((rb 2), .inl (ct 0, 8, .inl cpB)), ((ra 2), .inl (ct 0, 8, .inl (fun j => if j < 8 then cpB j else cp j))), ((rb 3), .inl (ct 0, 8, .inl caB)), ((ra 3), .inl (ct 0, 8, .inl (fun j => if j < 8 then caB j else ca j))), ((rb 4), .inl (ct 0, 8, .inl csB)), ((ra 4), .inl (ct 0, 8, .inl (fun j => if j < 8 then csB j else cs j)))] H := hP
  have hD : va_D A [((ra 0), .inr (3, [.int (nI cntB), .ref (ra 1), .ref (ra 2), .ref (ra 3), .ref (ra 4), .ref (ra 5)])), ((ra 5), .inl (ct 0, 8, .inl cg)), ((rb 0), .inr (3, [.int (nI cntB), .ref (rb 1), .ref (rb 2), .ref (rb 3), .ref (rb 4), .ref (rb 5)])), ((rb 5), .inl (ct 0, 8, .inl cgB)), ((rb 1), .inl (ct 0, 8, .inl ckB)), ((ra 1), .inl (ct 0, 8, .inl (fun j => if j < 8 then ckB j else ck j))), ((rb 2), .inl (ct 0, 8, .inl cpB)), ((ra 2), .inl (ct 0, 8, .inl (fun j => if j < 8 then cpB j else cp j))), ((rb 3), .inl (ct 0, 8, .inl caB)), ((ra 3), .inl (ct 0, 8, .inl (fun j => if j < 8 then caB j else ca j))), ((rb 4), .inl (ct 0, 8, .inl csB)), ((ra 4), .inl (ct 0, 8, .inl (fun j => if j < 8 then csB j else cs j)))] := hD
  refine lv_aload_n hx hb d_Row_copyFrom_52 rfl (lv_at hl 1 rfl) ?_
  refine q_get 2 5 i_Row rfl hx hb hts hown hE hP rfl (by decide) x_155 rfl d_Row_copyFrom_53 ?_
  refine lv_aload_n hx hb d_Row_copyFrom_56 rfl (lv_at hl 0 rfl) ?_
  refine q_get 0 5 i_Row rfl hx hb hts hown hE hP rfl (by decide) x_155 rfl d_Row_copyFrom_57 ?_
  refine cWSN (As := [.ref (rb 5), .ref (ra 5)]) (rest := []) K_X_copyRow_0 nw_819 hx hb hml hown hts hE hV hS (c_X_copyRow_0 l D ct st (rb 5) (ra 5) 8 cgB cg (by omega) _) hP hD hA [3, 1] [0, 2, 4, 5, 6, 7, 8, 9, 10, 11] (wr := [((ra 0), .inr (3, [.int (nI cntB), .ref (ra 1), .ref (ra 2), .ref (ra 3), .ref (ra 4), .ref (ra 5)])), ((rb 0), .inr (3, [.int (nI cntB), .ref (rb 1), .ref (rb 2), .ref (rb 3), .ref (rb 4), .ref (rb 5)])), ((rb 1), .inl (ct 0, 8, .inl ckB)), ((ra 1), .inl (ct 0, 8, .inl (fun j => if j < 8 then ckB j else ck j))), ((rb 2), .inl (ct 0, 8, .inl cpB)), ((ra 2), .inl (ct 0, 8, .inl (fun j => if j < 8 then cpB j else cp j))), ((rb 3), .inl (ct 0, 8, .inl caB)), ((ra 3), .inl (ct 0, 8, .inl (fun j => if j < 8 then caB j else ca j))), ((rb 4), .inl (ct 0, 8, .inl csB)), ((ra 4), .inl (ct 0, 8, .inl (fun j => if j < 8 then csB j else cs j)))]) rfl rfl (by decide) (by decide) (by decide) rfl hl.1 rfl (Nat.le_of_ble_eq_true rfl) d_Row_copyFrom_60 (Nat.le_of_ble_eq_true rfl) (Nat.le_of_ble_eq_true rfl) ⟨Nat.le_of_ble_eq_true rfl, Nat.le_of_ble_eq_true rfl⟩ (fun v W1 H locs hpost hP hD hS => ?_)
  obtain ⟨rfl, rfl, hq_60⟩ := hpost
  have hP : va_P D classes [((ra 0), .inr (3, [.int (nI cntB), .ref (ra 1), .ref (ra 2), .ref (ra 3), .ref (ra 4), .ref (ra 5)])), ((rb 0), .inr (3, [.int (nI cntB), .ref (rb 1), .ref (rb 2), .ref (rb 3), .ref (rb 4), .ref (rb 5)])), ((rb 1), .inl (ct 0, 8, .inl ckB)), ((ra 1), .inl (ct 0, 8, .inl (fun j => if j < 8 then ckB j else ck j))), ((rb 2), .inl (ct 0, 8, .inl cpB)), ((ra 2), .inl (ct 0, 8, .inl (fun j => if j < 8 then cpB j else cp j))), ((rb 3), .inl (ct 0, 8, .inl caB)), ((ra 3), .inl (ct 0, 8, .inl (fun j => if j < 8 then caB j else ca j))), ((rb 4), .inl (ct 0, 8, .inl csB)), ((ra 4), .inl (ct 0, 8, .inl (fun j => if j < 8 then csB j else cs j))), ((rb 5), .inl (ct 0, 8, .inl cgB)), ((ra 5), .inl (ct 0, 8, .inl (fun j => if j < 8 then cgB j else cg j)))] H := hP
  have hD : va_D A [((ra 0), .inr (3, [.int (nI cntB), .ref (ra 1), .ref (ra 2), .ref (ra 3), .ref (ra 4), .ref (ra 5)])), ((rb 0), .inr (3, [.int (nI cntB), .ref (rb 1), .ref (rb 2), .ref (rb 3), .ref (rb 4), .ref (rb 5)])), ((rb 1), .inl (ct 0, 8, .inl ckB)), ((ra 1), .inl (ct 0, 8, .inl (fun j => if j < 8 then ckB j else ck j))), ((rb 2), .inl (ct 0, 8, .inl cpB)), ((ra 2), .inl (ct 0, 8, .inl (fun j => if j < 8 then cpB j else cp j))), ((rb 3), .inl (ct 0, 8, .inl caB)), ((ra 3), .inl (ct 0, 8, .inl (fun j => if j < 8 then caB j else ca j))), ((rb 4), .inl (ct 0, 8, .inl csB)), ((ra 4), .inl (ct 0, 8, .inl (fun j => if j < 8 then csB j else cs j))), ((rb 5), .inl (ct 0, 8, .inl cgB)), ((ra 5), .inl (ct 0, 8, .inl (fun j => if j < 8 then cgB j else cg j)))] := hD
  exact rW_v hx hb hr hlk hAe hS (hP.sub (ws' := [((ra 0), .inr (3, [.int (nI cntB), .ref (ra 1), .ref (ra 2), .ref (ra 3), .ref (ra 4), .ref (ra 5)])), ((ra 1), .inl (ct 0, 8, .inl (fun j => if j < 8 then ckB j else ck j))), ((ra 2), .inl (ct 0, 8, .inl (fun j => if j < 8 then cpB j else cp j))), ((ra 3), .inl (ct 0, 8, .inl (fun j => if j < 8 then caB j else ca j))), ((ra 4), .inl (ct 0, 8, .inl (fun j => if j < 8 then csB j else cs j))), ((ra 5), .inl (ct 0, 8, .inl (fun j => if j < 8 then cgB j else cg j))), ((rb 0), .inr (3, [.int (nI cntB), .ref (rb 1), .ref (rb 2), .ref (rb 3), .ref (rb 4), .ref (rb 5)])), ((rb 1), .inl (ct 0, 8, .inl ckB)), ((rb 2), .inl (ct 0, 8, .inl cpB)), ((rb 3), .inl (ct 0, 8, .inl caB)), ((rb 4), .inl (ct 0, 8, .inl csB)), ((rb 5), .inl (ct 0, 8, .inl cgB))]) [0, 3, 5, 7, 9, 11, 1, 2, 4, 6, 8, 10] rfl) (hD.sub (ws' := [((ra 0), .inr (3, [.int (nI cntB), .ref (ra 1), .ref (ra 2), .ref (ra 3), .ref (ra 4), .ref (ra 5)])), ((ra 1), .inl (ct 0, 8, .inl (fun j => if j < 8 then ckB j else ck j))), ((ra 2), .inl (ct 0, 8, .inl (fun j => if j < 8 then cpB j else cp j))), ((ra 3), .inl (ct 0, 8, .inl (fun j => if j < 8 then caB j else ca j))), ((ra 4), .inl (ct 0, 8, .inl (fun j => if j < 8 then csB j else cs j))), ((ra 5), .inl (ct 0, 8, .inl (fun j => if j < 8 then cgB j else cg j))), ((rb 0), .inr (3, [.int (nI cntB), .ref (rb 1), .ref (rb 2), .ref (rb 3), .ref (rb 4), .ref (rb 5)])), ((rb 1), .inl (ct 0, 8, .inl ckB)), ((rb 2), .inl (ct 0, 8, .inl cpB)), ((rb 3), .inl (ct 0, 8, .inl caB)), ((rb 4), .inl (ct 0, 8, .inl csB)), ((rb 5), .inl (ct 0, 8, .inl cgB))]) [0, 3, 5, 7, 9, 11, 1, 2, 4, 6, 8, 10] (by decide) rfl) (Nat.le_of_ble_eq_true rfl) (Nat.le_of_ble_eq_true rfl) d_Row_copyFrom_63 ⟨rfl, rfl, trivial⟩
