theorem rem_cg {F G : RF} {n k : Nat} (h : ∀ a j, a < 5 → j < 8 → F a j = G a j) (hn : n ≤ 8) : ∀ a j, a < 5 → j < n - 1 → r_rem F k a j = r_rem G k a j := by
  intro a j ha hj
  unfold r_rem
  rw [h a j ha (by omega), h a (j + 1) ha (by omega)]
def mrg (G : RF) (k : Nat) : RF := fun a j => if j = k then (if a = 2 then (G 2 k * G 3 k + G 2 (k + 1) * G 3 (k + 1)).tdiv (G 3 k + G 3 (k + 1)) else if a = 3 then r_min (G 3 k + G 3 (k + 1)) 900 else G a k) else G a j
theorem wmeanI {v t w u : Int32} (h1 : -900 ≤ v.toInt ∧ v.toInt ≤ 900) (h2 : 1 ≤ t.toInt ∧ t.toInt ≤ 900) (h3 : -900 ≤ w.toInt ∧ w.toInt ≤ 900) (h4 : 1 ≤ u.toInt ∧ u.toInt ≤ 900) : ((v * t + w * u) / (t + u)).toInt = (v.toInt * t.toInt + w.toInt * u.toInt).tdiv (t.toInt + u.toInt) ∧ (t + u).toInt = t.toInt + u.toInt := by
  obtain ⟨b1, b2, -⟩ := wmean h1 h2 h3 h4
  have e1 : (v * t).toInt = v.toInt * t.toInt := fb_mulI (by omega) (by omega)
  have e2 : (w * u).toInt = w.toInt * u.toInt := fb_mulI (by omega) (by omega)
  have e3 : (t + u).toInt = t.toInt + u.toInt := fb_addI (by omega) (by omega)
  have e4 : (v * t + w * u).toInt = v.toInt * t.toInt + w.toInt * u.toInt := by rw [fb_addI (by omega) (by omega), e1, e2]
  refine ⟨?_, e3⟩
  rw [divI_toInt (by omega), e4, e3]
theorem mn900 {x : Int32} : (mnI 900 x).toInt = r_min x.toInt 900 := by
  rw [mnI_t]
  show (if x.toInt < 900 then x.toInt else 900) = if 900 < x.toInt then 900 else x.toInt
  split <;> split <;> omega
theorem fR_mrg {ck cp cs cg ca cs1 cg1 : Nat → Int32} {k : Nat} (h1 : -900 ≤ (cs k).toInt ∧ (cs k).toInt ≤ 900) (h2 : 1 ≤ (cg k).toInt ∧ (cg k).toInt ≤ 900) (h3 : -900 ≤ (cs (k + 1)).toInt ∧ (cs (k + 1)).toInt ≤ 900) (h4 : 1 ≤ (cg (k + 1)).toInt ∧ (cg (k + 1)).toInt ≤ 900) (e2 : cs1 = upd cs k ((cs k * cg k + cs (k + 1) * cg (k + 1)) / (cg k + cg (k + 1)))) (e3 : cg1 = upd cg k (mnI 900 (cg k + cg (k + 1)))) : ∀ a j, a < 5 → j < 8 → fR ck cp cs1 cg1 ca a j = mrg (fR ck cp cs cg ca) k a j := by
  intro a j ha hj
  obtain ⟨w1, w2⟩ := wmeanI h1 h2 h3 h4
  unfold mrg
  rcases a5 ha with rfl | rfl | rfl | rfl | rfl
  · rw [fR0, fR0, fR0]; by_cases q : j = k <;> simp [q]
  · rw [fR1, fR1, fR1]; by_cases q : j = k <;> simp [q]
  · rw [fR2, e2, upd_at, w1, fR2, fR2, fR3, fR3, fR2]; simp
  · rw [fR3, e3, upd_at, mn900, w2, fR3, fR3, fR3]; simp
  · rw [fR4, fR4, fR4]; by_cases q : j = k <;> simp [q]

set_option maxHeartbeats 4000000 in
set_option maxRecDepth 100000 in
theorem c_Row_merge (l : Launch) (D : va_G) (ct : Nat → ClassId) (st : Nat → Nat) (ra : Nat → Nat) (cnt : Nat) (ck : Nat → Int32) (cp : Nat → Int32) (ca : Nat → Int32) (cs : Nat → Int32) (cg : Nat → Int32) (k : Nat) (hn8 : cnt ≤ 8) (hk : k + 1 < cnt) (g1 : -900 ≤ (cs k).toInt ∧ (cs k).toInt ≤ 900) (g2 : 1 ≤ (cg k).toInt ∧ (cg k).toInt ≤ 900) (g3 : -900 ≤ (cs (k + 1)).toInt ∧ (cs (k + 1)).toInt ≤ 900) (g4 : 1 ≤ (cg (k + 1)).toInt ∧ (cg (k + 1)).toInt ≤ 900) (sz : Nat) : Met l y_Row_merge (wsy y_Row_merge b_Row_merge 4 (none)) (rmW 2 0 0 44) (PcW D ct st [.ref (ra 0), .int (nI k)] [((ra 0), .inr (3, [.int (nI cnt), .ref (ra 1), .ref (ra 2), .ref (ra 3), .ref (ra 4), .ref (ra 5)])), ((ra 1), .inl (ct 0, 8, .inl ck)), ((ra 2), .inl (ct 0, 8, .inl cp)), ((ra 3), .inl (ct 0, 8, .inl ca)), ((ra 4), .inl (ct 0, 8, .inl cs)), ((ra 5), .inl (ct 0, 8, .inl cg))] sz) (QcW D [((ra 0), .inr (3, [.int (nI cnt), .ref (ra 1), .ref (ra 2), .ref (ra 3), .ref (ra 4), .ref (ra 5)])), ((ra 1), .inl (ct 0, 8, .inl ck)), ((ra 2), .inl (ct 0, 8, .inl cp)), ((ra 3), .inl (ct 0, 8, .inl ca)), ((ra 4), .inl (ct 0, 8, .inl cs)), ((ra 5), .inl (ct 0, 8, .inl cg))] sz (fun v W1 => ∃ (ck1 : Nat → Int32) (cp1 : Nat → Int32) (ca1 : Nat → Int32) (cs1 : Nat → Int32) (cg1 : Nat → Int32), v = none ∧ W1 = [((ra 0), .inr (3, [.int (nI (cnt - 1)), .ref (ra 1), .ref (ra 2), .ref (ra 3), .ref (ra 4), .ref (ra 5)])), ((ra 1), .inl (ct 0, 8, .inl ck1)), ((ra 2), .inl (ct 0, 8, .inl cp1)), ((ra 3), .inl (ct 0, 8, .inl ca1)), ((ra 4), .inl (ct 0, 8, .inl cs1)), ((ra 5), .inl (ct 0, 8, .inl cg1))] ∧ (∀ a j, a < 5 → j < cnt - 1 → fR ck1 cp1 cs1 cg1 ca1 a j = r_rem (mrg (fR ck cp cs cg ca) k) (k + 1) a j))) 0 0 (va_A [((ra 0), .inr (3, [.int (nI cnt), .ref (ra 1), .ref (ra 2), .ref (ra 3), .ref (ra 4), .ref (ra 5)])), ((ra 1), .inl (ct 0, 8, .inl ck)), ((ra 2), .inl (ct 0, 8, .inl cp)), ((ra 3), .inl (ct 0, 8, .inl ca)), ((ra 4), .inl (ct 0, 8, .inl cs)), ((ra 5), .inl (ct 0, 8, .inl cg))] sz) := by
  refine enterW (by decide) (Nat.le_of_ble_eq_true rfl) ?_
  intro p e s m args below meth c ls A hx hb hr hml hown hts hlk hin hsz hAe hP hD hA hE hV hS hl
  have hl : lv_has ls 4 [(0, .ref (ra 0)), (1, .int (nI k))] := hl
  refine lv_iload_n hx hb d_Row_merge_0 rfl (lv_at hl 1 rfl) ?_
  refine lv_iconst (v := 1) hx hb d_Row_merge_1 (by decide) ?_
  refine q_iadd (v := nI (k + 1)) hx hb d_Row_merge_2 (nI_add k 1) ?_
  refine lv_istore_n (lv' := [(2, .int (nI (k + 1))), (0, .ref (ra 0)), (1, .int (nI k))]) hx hb d_Row_merge_3 rfl hl (by decide) rfl (fun ls hl => ?_)
  refine lv_aload_n hx hb d_Row_merge_4 rfl (lv_at hl 1 rfl) ?_
  refine q_get 0 5 i_Row rfl hx hb hts hown hE hP rfl (by decide) x_155 rfl d_Row_merge_5 ?_
  refine lv_iload_n hx hb d_Row_merge_8 rfl (lv_at hl 2 rfl) ?_
  refine q_iald (k := k) 5 hx hb hE hP rfl rfl (by omega) (by decide) d_Row_merge_9 ?_
  refine lv_aload_n hx hb d_Row_merge_10 rfl (lv_at hl 1 rfl) ?_
  refine q_get 0 5 i_Row rfl hx hb hts hown hE hP rfl (by decide) x_155 rfl d_Row_merge_11 ?_
  refine lv_iload_n hx hb d_Row_merge_14 rfl (lv_at hl 0 rfl) ?_
  refine q_iald (k := k + 1) 5 hx hb hE hP rfl rfl (by omega) (by decide) d_Row_merge_15 ?_
  refine lv_iadd hx hb d_Row_merge_16 ?_
  refine lv_istore_n (lv' := [(3, .int ((cg k) + (cg (k + 1)))), (2, .int (nI (k + 1))), (0, .ref (ra 0)), (1, .int (nI k))]) hx hb d_Row_merge_17 rfl hl (by decide) rfl (fun ls hl => ?_)
  refine lv_aload_n hx hb d_Row_merge_18 rfl (lv_at hl 2 rfl) ?_
  refine q_get 0 4 i_Row rfl hx hb hts hown hE hP rfl (by decide) x_154 rfl d_Row_merge_19 ?_
  refine lv_iload_n hx hb d_Row_merge_22 rfl (lv_at hl 3 rfl) ?_
  refine lv_aload_n hx hb d_Row_merge_23 rfl (lv_at hl 2 rfl) ?_
  refine q_get 0 4 i_Row rfl hx hb hts hown hE hP rfl (by decide) x_154 rfl d_Row_merge_24 ?_
  refine lv_iload_n hx hb d_Row_merge_27 rfl (lv_at hl 3 rfl) ?_
  refine q_iald (k := k) 4 hx hb hE hP rfl rfl (by omega) (by decide) d_Row_merge_28 ?_
  refine lv_aload_n hx hb d_Row_merge_29 rfl (lv_at hl 2 rfl) ?_
  refine q_get 0 5 i_Row rfl hx hb hts hown hE hP rfl (by decide) x_155 rfl d_Row_merge_30 ?_
  refine lv_iload_n hx hb d_Row_merge_33 rfl (lv_at hl 3 rfl) ?_
  refine q_iald (k := k) 5 hx hb hE hP rfl rfl (by omega) (by decide) d_Row_merge_34 ?_
  refine lv_imul hx hb d_Row_merge_35 ?_
  refine lv_aload_n hx hb d_Row_merge_36 rfl (lv_at hl 2 rfl) ?_
  refine q_get 0 4 i_Row rfl hx hb hts hown hE hP rfl (by decide) x_154 rfl d_Row_merge_37 ?_
  refine lv_iload_n hx hb d_Row_merge_40 rfl (lv_at hl 1 rfl) ?_
  refine q_iald (k := k + 1) 4 hx hb hE hP rfl rfl (by omega) (by decide) d_Row_merge_41 ?_
  refine lv_aload_n hx hb d_Row_merge_42 rfl (lv_at hl 2 rfl) ?_
  refine q_get 0 5 i_Row rfl hx hb hts hown hE hP rfl (by decide) x_155 rfl d_Row_merge_43 ?_
  refine lv_iload_n hx hb d_Row_merge_46 rfl (lv_at hl 1 rfl) ?_
  refine q_iald (k := k + 1) 5 hx hb hE hP rfl rfl (by omega) (by decide) d_Row_merge_47 ?_
  refine lv_imul hx hb d_Row_merge_48 ?_
  refine lv_iadd hx hb d_Row_merge_49 ?_
  refine lv_iload_n hx hb d_Row_merge_50 rfl (lv_at hl 0 rfl) ?_
  refine lv_idiv hx hb d_Row_merge_51 (fun z => by have w := (wmeanI g1 g2 g3 g4).2; rw [z] at w; have : (0 : Int32).toInt = 0 := rfl; omega) ?_
  obtain ⟨cs_1, ecs_1⟩ : ∃ g9 : Nat → Int32, g9 = upd cs k ((((cs k) * (cg k)) + ((cs (k + 1)) * (cg (k + 1)))) / ((cg k) + (cg (k + 1)))) := ⟨_, rfl⟩
  refine q_iast (k := k) 4 (ws1 := [((ra 0), .inr (3, [.int (nI cnt), .ref (ra 1), .ref (ra 2), .ref (ra 3), .ref (ra 4), .ref (ra 5)])), ((ra 1), .inl (ct 0, 8, .inl ck)), ((ra 2), .inl (ct 0, 8, .inl cp)), ((ra 3), .inl (ct 0, 8, .inl ca)), ((ra 4), .inl (ct 0, 8, .inl cs_1)), ((ra 5), .inl (ct 0, 8, .inl cg))]) ecs_1 hx hb hE hP hD hS rfl rfl (by omega) (by decide) rfl d_Row_merge_52 (fun H locs hP hD hS => ?_)
  refine lv_aload_n hx hb d_Row_merge_53 rfl (lv_at hl 2 rfl) ?_
  refine q_get 0 5 i_Row rfl hx hb hts hown hE hP rfl (by decide) x_155 rfl d_Row_merge_54 ?_
  refine lv_iload_n hx hb d_Row_merge_57 rfl (lv_at hl 3 rfl) ?_
  refine lv_sipush (v := 900) hx hb d_Row_merge_58 (by decide) ?_
  refine lv_iload_n hx hb d_Row_merge_61 rfl (lv_at hl 0 rfl) ?_
  refine va_mmin hx hb (by rw [hml]; exact hl.1.symm) hown (hts _ (List.mem_cons_of_mem _ x_663)) (hts _ (List.mem_cons_of_mem _ x_376)) (hts _ (List.mem_cons_of_mem _ x_13)) (hts _ (List.mem_cons_of_mem _ x_377)) (Nat.le_of_ble_eq_true rfl) (Nat.le_of_ble_eq_true rfl) (Nat.le_of_ble_eq_true rfl) (Nat.le_of_ble_eq_true rfl) d_Row_merge_62 ?_
  refine q_topi (v := (mnI 900 ((cg k) + (cg (k + 1))))) rfl ?_
  obtain ⟨cg_1, ecg_1⟩ : ∃ g9 : Nat → Int32, g9 = upd cg k (mnI 900 ((cg k) + (cg (k + 1)))) := ⟨_, rfl⟩
  refine q_iast (k := k) 5 (ws1 := [((ra 0), .inr (3, [.int (nI cnt), .ref (ra 1), .ref (ra 2), .ref (ra 3), .ref (ra 4), .ref (ra 5)])), ((ra 1), .inl (ct 0, 8, .inl ck)), ((ra 2), .inl (ct 0, 8, .inl cp)), ((ra 3), .inl (ct 0, 8, .inl ca)), ((ra 4), .inl (ct 0, 8, .inl cs_1)), ((ra 5), .inl (ct 0, 8, .inl cg_1))]) ecg_1 hx hb hE hP hD hS rfl rfl (by omega) (by decide) rfl d_Row_merge_65 (fun H locs hP hD hS => ?_)
  refine lv_aload_n hx hb d_Row_merge_66 rfl (lv_at hl 2 rfl) ?_
  refine lv_iload_n hx hb d_Row_merge_67 rfl (lv_at hl 1 rfl) ?_
  refine cWV (As := [.int (nI (k + 1))]) (rest := []) (q9 := 0) (ci := 3) K_Row_takeOut x_693 hx hb hml hown hts hE hV hS (c_Row_takeOut l D ct st ra cnt ck cp ca cs_1 cg_1 (k + 1) (hk) (hn8) _) hP hD hA [0, 1, 2, 3, 4, 5] [] (wr := []) rfl rfl (by decide) (by decide) (by decide) rfl hP rfl rfl hl.1 rfl (Nat.le_of_ble_eq_true rfl) d_Row_merge_68 (Nat.le_of_ble_eq_true rfl) (Nat.le_of_ble_eq_true rfl) ⟨Nat.le_of_ble_eq_true rfl, Nat.le_of_ble_eq_true rfl⟩ (fun v W1 H locs hpost hP hD hS => ?_)
  obtain ⟨ck1_1, cp1_1, ca1_1, cs1_1, cg1_1, rfl, rfl, hq_68⟩ := hpost
  have hP : va_P D classes [((ra 0), .inr (3, [.int (nI (cnt - 1)), .ref (ra 1), .ref (ra 2), .ref (ra 3), .ref (ra 4), .ref (ra 5)])), ((ra 1), .inl (ct 0, 8, .inl ck1_1)), ((ra 2), .inl (ct 0, 8, .inl cp1_1)), ((ra 3), .inl (ct 0, 8, .inl ca1_1)), ((ra 4), .inl (ct 0, 8, .inl cs1_1)), ((ra 5), .inl (ct 0, 8, .inl cg1_1))] H := hP
  have hD : va_D A [((ra 0), .inr (3, [.int (nI (cnt - 1)), .ref (ra 1), .ref (ra 2), .ref (ra 3), .ref (ra 4), .ref (ra 5)])), ((ra 1), .inl (ct 0, 8, .inl ck1_1)), ((ra 2), .inl (ct 0, 8, .inl cp1_1)), ((ra 3), .inl (ct 0, 8, .inl ca1_1)), ((ra 4), .inl (ct 0, 8, .inl cs1_1)), ((ra 5), .inl (ct 0, 8, .inl cg1_1))] := hD
  exact rW_v hx hb hr hlk hAe hS hP hD (Nat.le_of_ble_eq_true rfl) (Nat.le_of_ble_eq_true rfl) d_Row_merge_71 ⟨ck1_1, cp1_1, ca1_1, cs1_1, cg1_1, rfl, rfl, fun a j ha hj => (hq_68 a j ha hj).trans (rem_cg (fR_mrg g1 g2 g3 g4 ecs_1 ecg_1) hn8 a j ha hj)⟩
