def psd (G : RF) (sh ot : Nat) : RF := fun a j => if a = 2 ∧ j = ot then mt_sp G sh ot else if a = 3 ∧ j = sh then mt_st G sh ot else G a j
theorem heldI {x : Int32} : (mxI (-900) (mnI x 900)).toInt = r_hld x.toInt := by
  rw [mxI_t, mnI_t]
  show (if -900 < (if 900 < x.toInt then 900 else x.toInt) then (if 900 < x.toInt then 900 else x.toInt) else -900) = _
  unfold r_hld
  split <;> split <;> (try split) <;> omega
theorem sp1I {x y : Int32} (h1 : -900 ≤ x.toInt ∧ x.toInt ≤ 900) (h2 : -900 ≤ y.toInt ∧ y.toInt ≤ 900) : (x + y / 10).toInt = x.toInt + y.toInt.tdiv 10 := by
  have e : (y / 10).toInt = y.toInt.tdiv 10 := divI_toInt (y := 10) (by decide)
  have b := tdiv_bd (a := y.toInt) (b := 10) (K := 900) (by decide) (by omega)
  rw [fb_addI (by omega) (by omega), e]
theorem sp2I {x : Int32} (h1 : -900 ≤ x.toInt ∧ x.toInt ≤ 900) : (x * 2).toInt = 2 * x.toInt := by
  rw [fb_mulI (y := 2) (by show _ ≤ x.toInt * 2; omega) (by show x.toInt * 2 < _; omega), Int.mul_comm]; rfl
theorem st1I {x : Int32} (h : 1 ≤ x.toInt ∧ x.toInt ≤ 900) : (mxI 1 (x * 9 / 10)).toInt = if 9 * x.toInt / 10 < 1 then 1 else 9 * x.toInt / 10 := by
  have e1 : (x * 9).toInt = x.toInt * 9 := fb_mulI (y := 9) (by show _ ≤ x.toInt * 9; omega) (by show x.toInt * 9 < _; omega)
  have e2 : (x * 9 / 10).toInt = x.toInt * 9 / 10 := by
    rw [divI_toInt (by decide), e1, Int.tdiv_eq_ediv_of_nonneg (by omega)]; rfl
  rw [mxI_t, e2]
  show (if 1 < x.toInt * 9 / 10 then x.toInt * 9 / 10 else 1) = _
  rw [Int.mul_comm x.toInt 9]
  split <;> split <;> omega
theorem fR_psd1 {ck cp cs cg ca cs1 cg1 : Nat → Int32} {sh ot : Nat} (hk : ck ot = 1) (h1 : -900 ≤ (cs ot).toInt ∧ (cs ot).toInt ≤ 900) (h2 : -900 ≤ (cs sh).toInt ∧ (cs sh).toInt ≤ 900) (h3 : 1 ≤ (cg sh).toInt ∧ (cg sh).toInt ≤ 900) (e2 : cs1 = upd cs ot (mxI (-900) (mnI (cs ot + cs sh / 10) 900))) (e3 : cg1 = upd cg sh (mxI 1 (cg sh * 9 / 10))) : ∀ a j, a < 5 → j < 8 → fR ck cp cs1 cg1 ca a j = psd (fR ck cp cs cg ca) sh ot a j := by
  intro a j ha hj
  have hk2 : fR ck cp cs cg ca 0 ot = 1 := by rw [fR0, hk]; rfl
  unfold psd mt_sp mt_st
  rw [if_pos hk2, if_pos hk2, fR2, fR2, fR3]
  rcases a5 ha with rfl | rfl | rfl | rfl | rfl
  · rw [fR0, fR0]; simp
  · rw [fR1, fR1]; simp
  · rw [fR2, fR2, e2, upd_at, heldI, sp1I h1 h2]; simp
  · rw [fR3, fR3, e3, upd_at, st1I h3]; simp
  · rw [fR4, fR4]; simp
theorem fR_psd2 {ck cp cs cg ca cs1 : Nat → Int32} {sh ot : Nat} (hk : ¬ ck ot = 1) (h1 : -900 ≤ (cs ot).toInt ∧ (cs ot).toInt ≤ 900) (e2 : cs1 = upd cs ot (mxI (-900) (mnI (cs ot * 2) 900))) : ∀ a j, a < 5 → j < 8 → fR ck cp cs1 cg ca a j = psd (fR ck cp cs cg ca) sh ot a j := by
  intro a j ha hj
  have hk2 : ¬ fR ck cp cs cg ca 0 ot = 1 := by rw [fR0]; exact fun z => hk (Int32.toInt_inj.mp z)
  unfold psd mt_sp mt_st
  rw [if_neg hk2, if_neg hk2, fR2, fR3]
  rcases a5 ha with rfl | rfl | rfl | rfl | rfl
  · rw [fR0, fR0]; simp
  · rw [fR1, fR1]; simp
  · rw [fR2, fR2, e2, upd_at, heldI, sp2I h1]; simp
  · rw [fR3, fR3]; by_cases q : j = sh <;> simp [q]
  · rw [fR4, fR4]; simp

set_option maxHeartbeats 4000000 in
set_option maxRecDepth 100000 in
theorem c_Row_goThroughOther_0 (l : Launch) (D : va_G) (ct : Nat → ClassId) (st : Nat → Nat) (ra : Nat → Nat) (cnt : Nat) (ck : Nat → Int32) (cp : Nat → Int32) (ca : Nat → Int32) (cs : Nat → Int32) (cg : Nat → Int32) (k : Nat) (hk : k + 1 < 8) (hk0 : ck k = 0) (g1 : -900 ≤ (cs k).toInt ∧ (cs k).toInt ≤ 900) (g2 : 1 ≤ (cg k).toInt ∧ (cg k).toInt ≤ 900) (g3 : -900 ≤ (cs (k + 1)).toInt ∧ (cs (k + 1)).toInt ≤ 900) (g4 : 1 ≤ (cg (k + 1)).toInt ∧ (cg (k + 1)).toInt ≤ 900) (sz : Nat) : Met l y_Row_goThroughOther (wsy y_Row_goThroughOther b_Row_goThroughOther 4 (some .int)) (rmW 2 0 0 47) (PcW D ct st [.ref (ra 0), .int (nI k)] [((ra 0), .inr (3, [.int (nI cnt), .ref (ra 1), .ref (ra 2), .ref (ra 3), .ref (ra 4), .ref (ra 5)])), ((ra 1), .inl (ct 0, 8, .inl ck)), ((ra 2), .inl (ct 0, 8, .inl cp)), ((ra 3), .inl (ct 0, 8, .inl ca)), ((ra 4), .inl (ct 0, 8, .inl cs)), ((ra 5), .inl (ct 0, 8, .inl cg))] sz) (QcW D [((ra 0), .inr (3, [.int (nI cnt), .ref (ra 1), .ref (ra 2), .ref (ra 3), .ref (ra 4), .ref (ra 5)])), ((ra 1), .inl (ct 0, 8, .inl ck)), ((ra 2), .inl (ct 0, 8, .inl cp)), ((ra 3), .inl (ct 0, 8, .inl ca)), ((ra 4), .inl (ct 0, 8, .inl cs)), ((ra 5), .inl (ct 0, 8, .inl cg))] sz (fun v W1 => ∃ (ck1 : Nat → Int32) (cp1 : Nat → Int32) (ca1 : Nat → Int32) (cs1 : Nat → Int32) (cg1 : Nat → Int32), v = some (.int 2) ∧ W1 = [((ra 0), .inr (3, [.int (nI cnt), .ref (ra 1), .ref (ra 2), .ref (ra 3), .ref (ra 4), .ref (ra 5)])), ((ra 1), .inl (ct 0, 8, .inl ck1)), ((ra 2), .inl (ct 0, 8, .inl cp1)), ((ra 3), .inl (ct 0, 8, .inl ca1)), ((ra 4), .inl (ct 0, 8, .inl cs1)), ((ra 5), .inl (ct 0, 8, .inl cg1))] ∧ (∀ a j, a < 5 → j < 8 → fR ck1 cp1 cs1 cg1 ca1 a j = if j = k + 1 then (if a = 1 ∨ a = 4 then (psd (fR ck cp cs cg ca) k (k + 1)) a (k + 1) else (psd (fR ck cp cs cg ca) k (k + 1)) a k) else if j = k then (psd (fR ck cp cs cg ca) k (k + 1)) a (k + 1) else (psd (fR ck cp cs cg ca) k (k + 1)) a j))) 0 0 (va_A [((ra 0), .inr (3, [.int (nI cnt), .ref (ra 1), .ref (ra 2), .ref (ra 3), .ref (ra 4), .ref (ra 5)])), ((ra 1), .inl (ct 0, 8, .inl ck)), ((ra 2), .inl (ct 0, 8, .inl cp)), ((ra 3), .inl (ct 0, 8, .inl ca)), ((ra 4), .inl (ct 0, 8, .inl cs)), ((ra 5), .inl (ct 0, 8, .inl cg))] sz) := by
  refine enterW (by decide) (Nat.le_of_ble_eq_true rfl) ?_
  intro p e s m args below meth c ls A hx hb hr hml hown hts hlk hin hsz hAe hP hD hA hE hV hS hl
  have hl : lv_has ls 4 [(0, .ref (ra 0)), (1, .int (nI k))] := hl
  refine lv_aload_n hx hb d_Row_goThroughOther_0 rfl (lv_at hl 0 rfl) ?_
  refine q_get 0 1 i_Row rfl hx hb hts hown hE hP rfl (by decide) x_151 rfl d_Row_goThroughOther_1 ?_
  refine lv_iload_n hx hb d_Row_goThroughOther_4 rfl (lv_at hl 1 rfl) ?_
  refine q_iald (k := k) 1 hx hb hE hP rfl rfl (by omega) (by decide) d_Row_goThroughOther_5 ?_
  refine lv_if_ne (tgt := 13) hx hb d_Row_goThroughOther_6 (by decide) (fun h_6 => absurd hk0 h_6) (fun h_6 => ?_)
  refine lv_iload_n hx hb d_Row_goThroughOther_9 rfl (lv_at hl 1 rfl) ?_
  refine lv_goto (tgt := 16) hx hb d_Row_goThroughOther_10 (by decide) ?_
  refine lv_istore_n (lv' := [(2, .int (nI k)), (0, .ref (ra 0)), (1, .int (nI k))]) hx hb d_Row_goThroughOther_16 rfl hl (by decide) rfl (fun ls hl => ?_)
  refine lv_aload_n hx hb d_Row_goThroughOther_17 rfl (lv_at hl 1 rfl) ?_
  refine q_get 0 1 i_Row rfl hx hb hts hown hE hP rfl (by decide) x_151 rfl d_Row_goThroughOther_18 ?_
  refine lv_iload_n hx hb d_Row_goThroughOther_21 rfl (lv_at hl 2 rfl) ?_
  refine q_iald (k := k) 1 hx hb hE hP rfl rfl (by omega) (by decide) d_Row_goThroughOther_22 ?_
  refine lv_if_ne (tgt := 32) hx hb d_Row_goThroughOther_23 (by decide) (fun h_23 => absurd hk0 h_23) (fun h_23 => ?_)
  refine lv_iload_n hx hb d_Row_goThroughOther_26 rfl (lv_at hl 2 rfl) ?_
  refine lv_iconst (v := 1) hx hb d_Row_goThroughOther_27 (by decide) ?_
  refine q_iadd (v := nI (k + 1)) hx hb d_Row_goThroughOther_28 (nI_add k 1) ?_
  refine lv_goto (tgt := 33) hx hb d_Row_goThroughOther_29 (by decide) ?_
  refine lv_istore_n (lv' := [(3, .int (nI (k + 1))), (2, .int (nI k)), (0, .ref (ra 0)), (1, .int (nI k))]) hx hb d_Row_goThroughOther_33 rfl hl (by decide) rfl (fun ls hl => ?_)
  refine lv_aload_n hx hb d_Row_goThroughOther_34 rfl (lv_at hl 2 rfl) ?_
  refine q_get 0 1 i_Row rfl hx hb hts hown hE hP rfl (by decide) x_151 rfl d_Row_goThroughOther_35 ?_
  refine lv_iload_n hx hb d_Row_goThroughOther_38 rfl (lv_at hl 0 rfl) ?_
  refine q_iald (k := k + 1) 1 hx hb hE hP rfl rfl (by omega) (by decide) d_Row_goThroughOther_39 ?_
  refine lv_iconst (v := 1) hx hb d_Row_goThroughOther_40 (by decide) ?_
  refine lv_icmp_ne (tgt := 94) hx hb d_Row_goThroughOther_41 (by decide) (fun h_41 => ?_) (fun h_41 => ?_)
  · refine lv_aload_n hx hb d_Row_goThroughOther_94 rfl (lv_at hl 2 rfl) ?_
    refine q_get 0 4 i_Row rfl hx hb hts hown hE hP rfl (by decide) x_154 rfl d_Row_goThroughOther_95 ?_
    refine lv_iload_n hx hb d_Row_goThroughOther_98 rfl (lv_at hl 0 rfl) ?_
    refine lv_aload_n hx hb d_Row_goThroughOther_99 rfl (lv_at hl 2 rfl) ?_
    refine q_get 0 4 i_Row rfl hx hb hts hown hE hP rfl (by decide) x_154 rfl d_Row_goThroughOther_100 ?_
    refine lv_iload_n hx hb d_Row_goThroughOther_103 rfl (lv_at hl 0 rfl) ?_
    refine q_iald (k := k + 1) 4 hx hb hE hP rfl rfl (by omega) (by decide) d_Row_goThroughOther_104 ?_
    refine lv_iconst (v := 2) hx hb d_Row_goThroughOther_105 (by decide) ?_
    refine lv_imul hx hb d_Row_goThroughOther_106 ?_
    refine cRS (As := [.int ((cs (k + 1)) * 2)]) (rest := [.int (nI (k + 1)), .ref (ra 4)]) K_Row_held x_709 hx hb hml hown hts hE hV hS (c_Row_held l D ct st ((cs (k + 1)) * 2)) (fun k q h => by simp at h) rfl hl.1 rfl (Nat.le_of_ble_eq_true rfl) d_Row_goThroughOther_107 (Nat.le_of_ble_eq_true rfl) (Nat.le_of_ble_eq_true rfl) ⟨Nat.le_of_ble_eq_true rfl, Nat.le_of_ble_eq_true rfl⟩ ?_
    obtain ⟨cs_1, ecs_1⟩ : ∃ g9 : Nat → Int32, g9 = upd cs (k + 1) (mxI (-900) (mnI ((cs (k + 1)) * 2) 900)) := ⟨_, rfl⟩
    refine q_iast (k := k + 1) 4 (ws1 := [((ra 0), .inr (3, [.int (nI cnt), .ref (ra 1), .ref (ra 2), .ref (ra 3), .ref (ra 4), .ref (ra 5)])), ((ra 1), .inl (ct 0, 8, .inl ck)), ((ra 2), .inl (ct 0, 8, .inl cp)), ((ra 3), .inl (ct 0, 8, .inl ca)), ((ra 4), .inl (ct 0, 8, .inl cs_1)), ((ra 5), .inl (ct 0, 8, .inl cg))]) ecs_1 hx hb hE hP hD hS rfl rfl (by omega) (by decide) rfl d_Row_goThroughOther_110 (fun H locs hP hD hS => ?_)
    refine lv_aload_n hx hb d_Row_goThroughOther_111 rfl (lv_at hl 2 rfl) ?_
    refine lv_iload_n hx hb d_Row_goThroughOther_112 rfl (lv_at hl 3 rfl) ?_
    refine cWV (As := [.int (nI k)]) (rest := []) (q9 := 0) (ci := 3) K_Row_changePlaces x_697 hx hb hml hown hts hE hV hS (c_Row_changePlaces l D ct st ra cnt ck cp ca cs_1 cg k (by omega) _) hP hD hA [0, 1, 2, 3, 4, 5] [] (wr := []) rfl rfl (by decide) (by decide) (by decide) rfl hP rfl rfl hl.1 rfl (Nat.le_of_ble_eq_true rfl) d_Row_goThroughOther_113 (Nat.le_of_ble_eq_true rfl) (Nat.le_of_ble_eq_true rfl) ⟨Nat.le_of_ble_eq_true rfl, Nat.le_of_ble_eq_true rfl⟩ (fun v W1 H locs hpost hP hD hS => ?_)
    obtain ⟨ck1_1, cp1_1, ca1_1, cs1_1, cg1_1, rfl, rfl, hq_113⟩ := hpost
    have hP : va_P D classes [((ra 0), .inr (3, [.int (nI cnt), .ref (ra 1), .ref (ra 2), .ref (ra 3), .ref (ra 4), .ref (ra 5)])), ((ra 1), .inl (ct 0, 8, .inl ck1_1)), ((ra 2), .inl (ct 0, 8, .inl cp1_1)), ((ra 3), .inl (ct 0, 8, .inl ca1_1)), ((ra 4), .inl (ct 0, 8, .inl cs1_1)), ((ra 5), .inl (ct 0, 8, .inl cg1_1))] H := hP
    have hD : va_D A [((ra 0), .inr (3, [.int (nI cnt), .ref (ra 1), .ref (ra 2), .ref (ra 3), .ref (ra 4), .ref (ra 5)])), ((ra 1), .inl (ct 0, 8, .inl ck1_1)), ((ra 2), .inl (ct 0, 8, .inl cp1_1)), ((ra 3), .inl (ct 0, 8, .inl ca1_1)), ((ra 4), .inl (ct 0, 8, .inl cs1_1)), ((ra 5), .inl (ct 0, 8, .inl cg1_1))] := hD
    refine lv_iconst (v := 2) hx hb d_Row_goThroughOther_116 (by decide) ?_
    exact rW_i hx hb hr hlk hAe hS hP hD (Nat.le_of_ble_eq_true rfl) (Nat.le_of_ble_eq_true rfl) d_Row_goThroughOther_117 ⟨ck1_1, cp1_1, ca1_1, cs1_1, cg1_1, rfl, rfl, fun a j ha hj => by have hp := fR_psd2 (cp := cp) (ca := ca) (cg := cg) (sh := k) h_41 g3 ecs_1; rw [hq_113 a j ha hj, hp a (k + 1) ha (by omega), hp a k ha (by omega), hp a j ha hj]⟩
  · refine lv_aload_n hx hb d_Row_goThroughOther_44 rfl (lv_at hl 2 rfl) ?_
    refine q_get 0 4 i_Row rfl hx hb hts hown hE hP rfl (by decide) x_154 rfl d_Row_goThroughOther_45 ?_
    refine lv_iload_n hx hb d_Row_goThroughOther_48 rfl (lv_at hl 0 rfl) ?_
    refine lv_aload_n hx hb d_Row_goThroughOther_49 rfl (lv_at hl 2 rfl) ?_
    refine q_get 0 4 i_Row rfl hx hb hts hown hE hP rfl (by decide) x_154 rfl d_Row_goThroughOther_50 ?_
    refine lv_iload_n hx hb d_Row_goThroughOther_53 rfl (lv_at hl 0 rfl) ?_
    refine q_iald (k := k + 1) 4 hx hb hE hP rfl rfl (by omega) (by decide) d_Row_goThroughOther_54 ?_
    refine lv_aload_n hx hb d_Row_goThroughOther_55 rfl (lv_at hl 2 rfl) ?_
    refine q_get 0 4 i_Row rfl hx hb hts hown hE hP rfl (by decide) x_154 rfl d_Row_goThroughOther_56 ?_
    refine lv_iload_n hx hb d_Row_goThroughOther_59 rfl (lv_at hl 1 rfl) ?_
    refine q_iald (k := k) 4 hx hb hE hP rfl rfl (by omega) (by decide) d_Row_goThroughOther_60 ?_
    refine lv_bipush (v := 10) hx hb d_Row_goThroughOther_61 (by decide) ?_
    refine lv_idiv hx hb d_Row_goThroughOther_63 (by decide) ?_
    refine lv_iadd hx hb d_Row_goThroughOther_64 ?_
    refine cRS (As := [.int ((cs (k + 1)) + ((cs k) / 10))]) (rest := [.int (nI (k + 1)), .ref (ra 4)]) K_Row_held x_709 hx hb hml hown hts hE hV hS (c_Row_held l D ct st ((cs (k + 1)) + ((cs k) / 10))) (fun k q h => by simp at h) rfl hl.1 rfl (Nat.le_of_ble_eq_true rfl) d_Row_goThroughOther_65 (Nat.le_of_ble_eq_true rfl) (Nat.le_of_ble_eq_true rfl) ⟨Nat.le_of_ble_eq_true rfl, Nat.le_of_ble_eq_true rfl⟩ ?_
    obtain ⟨cs_2, ecs_2⟩ : ∃ g9 : Nat → Int32, g9 = upd cs (k + 1) (mxI (-900) (mnI ((cs (k + 1)) + ((cs k) / 10)) 900)) := ⟨_, rfl⟩
    refine q_iast (k := k + 1) 4 (ws1 := [((ra 0), .inr (3, [.int (nI cnt), .ref (ra 1), .ref (ra 2), .ref (ra 3), .ref (ra 4), .ref (ra 5)])), ((ra 1), .inl (ct 0, 8, .inl ck)), ((ra 2), .inl (ct 0, 8, .inl cp)), ((ra 3), .inl (ct 0, 8, .inl ca)), ((ra 4), .inl (ct 0, 8, .inl cs_2)), ((ra 5), .inl (ct 0, 8, .inl cg))]) ecs_2 hx hb hE hP hD hS rfl rfl (by omega) (by decide) rfl d_Row_goThroughOther_68 (fun H locs hP hD hS => ?_)
    refine lv_aload_n hx hb d_Row_goThroughOther_69 rfl (lv_at hl 2 rfl) ?_
    refine q_get 0 5 i_Row rfl hx hb hts hown hE hP rfl (by decide) x_155 rfl d_Row_goThroughOther_70 ?_
    refine lv_iload_n hx hb d_Row_goThroughOther_73 rfl (lv_at hl 1 rfl) ?_
    refine lv_iconst (v := 1) hx hb d_Row_goThroughOther_74 (by decide) ?_
    refine lv_aload_n hx hb d_Row_goThroughOther_75 rfl (lv_at hl 2 rfl) ?_
    refine q_get 0 5 i_Row rfl hx hb hts hown hE hP rfl (by decide) x_155 rfl d_Row_goThroughOther_76 ?_
    refine lv_iload_n hx hb d_Row_goThroughOther_79 rfl (lv_at hl 1 rfl) ?_
    refine q_iald (k := k) 5 hx hb hE hP rfl rfl (by omega) (by decide) d_Row_goThroughOther_80 ?_
    refine lv_bipush (v := 9) hx hb d_Row_goThroughOther_81 (by decide) ?_
    refine lv_imul hx hb d_Row_goThroughOther_83 ?_
    refine lv_bipush (v := 10) hx hb d_Row_goThroughOther_84 (by decide) ?_
    refine lv_idiv hx hb d_Row_goThroughOther_86 (by decide) ?_
    refine va_mmax hx hb (by rw [hml]; exact hl.1.symm) hown (hts _ (List.mem_cons_of_mem _ x_664)) (hts _ (List.mem_cons_of_mem _ x_510)) (hts _ (List.mem_cons_of_mem _ x_13)) (hts _ (List.mem_cons_of_mem _ x_511)) (Nat.le_of_ble_eq_true rfl) (Nat.le_of_ble_eq_true rfl) (Nat.le_of_ble_eq_true rfl) (Nat.le_of_ble_eq_true rfl) d_Row_goThroughOther_87 ?_
    refine q_topi (v := (mxI 1 (((cg k) * 9) / 10))) rfl ?_
    obtain ⟨cg_1, ecg_1⟩ : ∃ g9 : Nat → Int32, g9 = upd cg k (mxI 1 (((cg k) * 9) / 10)) := ⟨_, rfl⟩
    refine q_iast (k := k) 5 (ws1 := [((ra 0), .inr (3, [.int (nI cnt), .ref (ra 1), .ref (ra 2), .ref (ra 3), .ref (ra 4), .ref (ra 5)])), ((ra 1), .inl (ct 0, 8, .inl ck)), ((ra 2), .inl (ct 0, 8, .inl cp)), ((ra 3), .inl (ct 0, 8, .inl ca)), ((ra 4), .inl (ct 0, 8, .inl cs_2)), ((ra 5), .inl (ct 0, 8, .inl cg_1))]) ecg_1 hx hb hE hP hD hS rfl rfl (by omega) (by decide) rfl d_Row_goThroughOther_90 (fun H locs hP hD hS => ?_)
    refine lv_goto (tgt := 111) hx hb d_Row_goThroughOther_91 (by decide) ?_
    refine lv_aload_n hx hb d_Row_goThroughOther_111 rfl (lv_at hl 2 rfl) ?_
    refine lv_iload_n hx hb d_Row_goThroughOther_112 rfl (lv_at hl 3 rfl) ?_
    refine cWV (As := [.int (nI k)]) (rest := []) (q9 := 0) (ci := 3) K_Row_changePlaces x_697 hx hb hml hown hts hE hV hS (c_Row_changePlaces l D ct st ra cnt ck cp ca cs_2 cg_1 k (by omega) _) hP hD hA [0, 1, 2, 3, 4, 5] [] (wr := []) rfl rfl (by decide) (by decide) (by decide) rfl hP rfl rfl hl.1 rfl (Nat.le_of_ble_eq_true rfl) d_Row_goThroughOther_113 (Nat.le_of_ble_eq_true rfl) (Nat.le_of_ble_eq_true rfl) ⟨Nat.le_of_ble_eq_true rfl, Nat.le_of_ble_eq_true rfl⟩ (fun v W1 H locs hpost hP hD hS => ?_)
    obtain ⟨ck1_2, cp1_2, ca1_2, cs1_2, cg1_2, rfl, rfl, hq_113⟩ := hpost
    have hP : va_P D classes [((ra 0), .inr (3, [.int (nI cnt), .ref (ra 1), .ref (ra 2), .ref (ra 3), .ref (ra 4), .ref (ra 5)])), ((ra 1), .inl (ct 0, 8, .inl ck1_2)), ((ra 2), .inl (ct 0, 8, .inl cp1_2)), ((ra 3), .inl (ct 0, 8, .inl ca1_2)), ((ra 4), .inl (ct 0, 8, .inl cs1_2)), ((ra 5), .inl (ct 0, 8, .inl cg1_2))] H := hP
    have hD : va_D A [((ra 0), .inr (3, [.int (nI cnt), .ref (ra 1), .ref (ra 2), .ref (ra 3), .ref (ra 4), .ref (ra 5)])), ((ra 1), .inl (ct 0, 8, .inl ck1_2)), ((ra 2), .inl (ct 0, 8, .inl cp1_2)), ((ra 3), .inl (ct 0, 8, .inl ca1_2)), ((ra 4), .inl (ct 0, 8, .inl cs1_2)), ((ra 5), .inl (ct 0, 8, .inl cg1_2))] := hD
    refine lv_iconst (v := 2) hx hb d_Row_goThroughOther_116 (by decide) ?_
    exact rW_i hx hb hr hlk hAe hS hP hD (Nat.le_of_ble_eq_true rfl) (Nat.le_of_ble_eq_true rfl) d_Row_goThroughOther_117 ⟨ck1_2, cp1_2, ca1_2, cs1_2, cg1_2, rfl, rfl, fun a j ha hj => by have hp := fR_psd1 (cp := cp) (ca := ca) h_41 g3 g1 g2 ecs_2 ecg_1; rw [hq_113 a j ha hj, hp a (k + 1) ha (by omega), hp a k ha (by omega), hp a j ha hj]⟩
set_option maxHeartbeats 4000000 in
set_option maxRecDepth 100000 in
theorem c_Row_goThroughOther_1 (l : Launch) (D : va_G) (ct : Nat → ClassId) (st : Nat → Nat) (ra : Nat → Nat) (cnt : Nat) (ck : Nat → Int32) (cp : Nat → Int32) (ca : Nat → Int32) (cs : Nat → Int32) (cg : Nat → Int32) (k : Nat) (hk : k + 1 < 8) (hk0 : ¬ ck k = 0) (g1 : -900 ≤ (cs k).toInt ∧ (cs k).toInt ≤ 900) (g2 : 1 ≤ (cg k).toInt ∧ (cg k).toInt ≤ 900) (g3 : -900 ≤ (cs (k + 1)).toInt ∧ (cs (k + 1)).toInt ≤ 900) (g4 : 1 ≤ (cg (k + 1)).toInt ∧ (cg (k + 1)).toInt ≤ 900) (sz : Nat) : Met l y_Row_goThroughOther (wsy y_Row_goThroughOther b_Row_goThroughOther 4 (some .int)) (rmW 2 0 0 47) (PcW D ct st [.ref (ra 0), .int (nI k)] [((ra 0), .inr (3, [.int (nI cnt), .ref (ra 1), .ref (ra 2), .ref (ra 3), .ref (ra 4), .ref (ra 5)])), ((ra 1), .inl (ct 0, 8, .inl ck)), ((ra 2), .inl (ct 0, 8, .inl cp)), ((ra 3), .inl (ct 0, 8, .inl ca)), ((ra 4), .inl (ct 0, 8, .inl cs)), ((ra 5), .inl (ct 0, 8, .inl cg))] sz) (QcW D [((ra 0), .inr (3, [.int (nI cnt), .ref (ra 1), .ref (ra 2), .ref (ra 3), .ref (ra 4), .ref (ra 5)])), ((ra 1), .inl (ct 0, 8, .inl ck)), ((ra 2), .inl (ct 0, 8, .inl cp)), ((ra 3), .inl (ct 0, 8, .inl ca)), ((ra 4), .inl (ct 0, 8, .inl cs)), ((ra 5), .inl (ct 0, 8, .inl cg))] sz (fun v W1 => ∃ (ck1 : Nat → Int32) (cp1 : Nat → Int32) (ca1 : Nat → Int32) (cs1 : Nat → Int32) (cg1 : Nat → Int32), v = some (.int 2) ∧ W1 = [((ra 0), .inr (3, [.int (nI cnt), .ref (ra 1), .ref (ra 2), .ref (ra 3), .ref (ra 4), .ref (ra 5)])), ((ra 1), .inl (ct 0, 8, .inl ck1)), ((ra 2), .inl (ct 0, 8, .inl cp1)), ((ra 3), .inl (ct 0, 8, .inl ca1)), ((ra 4), .inl (ct 0, 8, .inl cs1)), ((ra 5), .inl (ct 0, 8, .inl cg1))] ∧ (∀ a j, a < 5 → j < 8 → fR ck1 cp1 cs1 cg1 ca1 a j = if j = k + 1 then (if a = 1 ∨ a = 4 then (psd (fR ck cp cs cg ca) (k + 1) k) a (k + 1) else (psd (fR ck cp cs cg ca) (k + 1) k) a k) else if j = k then (psd (fR ck cp cs cg ca) (k + 1) k) a (k + 1) else (psd (fR ck cp cs cg ca) (k + 1) k) a j))) 0 0 (va_A [((ra 0), .inr (3, [.int (nI cnt), .ref (ra 1), .ref (ra 2), .ref (ra 3), .ref (ra 4), .ref (ra 5)])), ((ra 1), .inl (ct 0, 8, .inl ck)), ((ra 2), .inl (ct 0, 8, .inl cp)), ((ra 3), .inl (ct 0, 8, .inl ca)), ((ra 4), .inl (ct 0, 8, .inl cs)), ((ra 5), .inl (ct 0, 8, .inl cg))] sz) := by
  refine enterW (by decide) (Nat.le_of_ble_eq_true rfl) ?_
  intro p e s m args below meth c ls A hx hb hr hml hown hts hlk hin hsz hAe hP hD hA hE hV hS hl
  have hl : lv_has ls 4 [(0, .ref (ra 0)), (1, .int (nI k))] := hl
  refine lv_aload_n hx hb d_Row_goThroughOther_0 rfl (lv_at hl 0 rfl) ?_
  refine q_get 0 1 i_Row rfl hx hb hts hown hE hP rfl (by decide) x_151 rfl d_Row_goThroughOther_1 ?_
  refine lv_iload_n hx hb d_Row_goThroughOther_4 rfl (lv_at hl 1 rfl) ?_
  refine q_iald (k := k) 1 hx hb hE hP rfl rfl (by omega) (by decide) d_Row_goThroughOther_5 ?_
  refine lv_if_ne (tgt := 13) hx hb d_Row_goThroughOther_6 (by decide) (fun h_6 => ?_) (fun h_6 => absurd h_6 hk0)
  refine lv_iload_n hx hb d_Row_goThroughOther_13 rfl (lv_at hl 1 rfl) ?_
  refine lv_iconst (v := 1) hx hb d_Row_goThroughOther_14 (by decide) ?_
  refine q_iadd (v := nI (k + 1)) hx hb d_Row_goThroughOther_15 (nI_add k 1) ?_
  refine lv_istore_n (lv' := [(2, .int (nI (k + 1))), (0, .ref (ra 0)), (1, .int (nI k))]) hx hb d_Row_goThroughOther_16 rfl hl (by decide) rfl (fun ls hl => ?_)
  refine lv_aload_n hx hb d_Row_goThroughOther_17 rfl (lv_at hl 1 rfl) ?_
  refine q_get 0 1 i_Row rfl hx hb hts hown hE hP rfl (by decide) x_151 rfl d_Row_goThroughOther_18 ?_
  refine lv_iload_n hx hb d_Row_goThroughOther_21 rfl (lv_at hl 2 rfl) ?_
  refine q_iald (k := k) 1 hx hb hE hP rfl rfl (by omega) (by decide) d_Row_goThroughOther_22 ?_
  refine lv_if_ne (tgt := 32) hx hb d_Row_goThroughOther_23 (by decide) (fun h_23 => ?_) (fun h_23 => absurd h_23 hk0)
  refine lv_iload_n hx hb d_Row_goThroughOther_32 rfl (lv_at hl 2 rfl) ?_
  refine lv_istore_n (lv' := [(3, .int (nI k)), (2, .int (nI (k + 1))), (0, .ref (ra 0)), (1, .int (nI k))]) hx hb d_Row_goThroughOther_33 rfl hl (by decide) rfl (fun ls hl => ?_)
  refine lv_aload_n hx hb d_Row_goThroughOther_34 rfl (lv_at hl 2 rfl) ?_
  refine q_get 0 1 i_Row rfl hx hb hts hown hE hP rfl (by decide) x_151 rfl d_Row_goThroughOther_35 ?_
  refine lv_iload_n hx hb d_Row_goThroughOther_38 rfl (lv_at hl 0 rfl) ?_
  refine q_iald (k := k) 1 hx hb hE hP rfl rfl (by omega) (by decide) d_Row_goThroughOther_39 ?_
  refine lv_iconst (v := 1) hx hb d_Row_goThroughOther_40 (by decide) ?_
  refine lv_icmp_ne (tgt := 94) hx hb d_Row_goThroughOther_41 (by decide) (fun h_41 => ?_) (fun h_41 => ?_)
  · refine lv_aload_n hx hb d_Row_goThroughOther_94 rfl (lv_at hl 2 rfl) ?_
    refine q_get 0 4 i_Row rfl hx hb hts hown hE hP rfl (by decide) x_154 rfl d_Row_goThroughOther_95 ?_
    refine lv_iload_n hx hb d_Row_goThroughOther_98 rfl (lv_at hl 0 rfl) ?_
    refine lv_aload_n hx hb d_Row_goThroughOther_99 rfl (lv_at hl 2 rfl) ?_
    refine q_get 0 4 i_Row rfl hx hb hts hown hE hP rfl (by decide) x_154 rfl d_Row_goThroughOther_100 ?_
    refine lv_iload_n hx hb d_Row_goThroughOther_103 rfl (lv_at hl 0 rfl) ?_
    refine q_iald (k := k) 4 hx hb hE hP rfl rfl (by omega) (by decide) d_Row_goThroughOther_104 ?_
    refine lv_iconst (v := 2) hx hb d_Row_goThroughOther_105 (by decide) ?_
    refine lv_imul hx hb d_Row_goThroughOther_106 ?_
    refine cRS (As := [.int ((cs k) * 2)]) (rest := [.int (nI k), .ref (ra 4)]) K_Row_held x_709 hx hb hml hown hts hE hV hS (c_Row_held l D ct st ((cs k) * 2)) (fun k q h => by simp at h) rfl hl.1 rfl (Nat.le_of_ble_eq_true rfl) d_Row_goThroughOther_107 (Nat.le_of_ble_eq_true rfl) (Nat.le_of_ble_eq_true rfl) ⟨Nat.le_of_ble_eq_true rfl, Nat.le_of_ble_eq_true rfl⟩ ?_
    obtain ⟨cs_1, ecs_1⟩ : ∃ g9 : Nat → Int32, g9 = upd cs k (mxI (-900) (mnI ((cs k) * 2) 900)) := ⟨_, rfl⟩
    refine q_iast (k := k) 4 (ws1 := [((ra 0), .inr (3, [.int (nI cnt), .ref (ra 1), .ref (ra 2), .ref (ra 3), .ref (ra 4), .ref (ra 5)])), ((ra 1), .inl (ct 0, 8, .inl ck)), ((ra 2), .inl (ct 0, 8, .inl cp)), ((ra 3), .inl (ct 0, 8, .inl ca)), ((ra 4), .inl (ct 0, 8, .inl cs_1)), ((ra 5), .inl (ct 0, 8, .inl cg))]) ecs_1 hx hb hE hP hD hS rfl rfl (by omega) (by decide) rfl d_Row_goThroughOther_110 (fun H locs hP hD hS => ?_)
    refine lv_aload_n hx hb d_Row_goThroughOther_111 rfl (lv_at hl 2 rfl) ?_
    refine lv_iload_n hx hb d_Row_goThroughOther_112 rfl (lv_at hl 3 rfl) ?_
    refine cWV (As := [.int (nI k)]) (rest := []) (q9 := 0) (ci := 3) K_Row_changePlaces x_697 hx hb hml hown hts hE hV hS (c_Row_changePlaces l D ct st ra cnt ck cp ca cs_1 cg k (by omega) _) hP hD hA [0, 1, 2, 3, 4, 5] [] (wr := []) rfl rfl (by decide) (by decide) (by decide) rfl hP rfl rfl hl.1 rfl (Nat.le_of_ble_eq_true rfl) d_Row_goThroughOther_113 (Nat.le_of_ble_eq_true rfl) (Nat.le_of_ble_eq_true rfl) ⟨Nat.le_of_ble_eq_true rfl, Nat.le_of_ble_eq_true rfl⟩ (fun v W1 H locs hpost hP hD hS => ?_)
    obtain ⟨ck1_1, cp1_1, ca1_1, cs1_1, cg1_1, rfl, rfl, hq_113⟩ := hpost
    have hP : va_P D classes [((ra 0), .inr (3, [.int (nI cnt), .ref (ra 1), .ref (ra 2), .ref (ra 3), .ref (ra 4), .ref (ra 5)])), ((ra 1), .inl (ct 0, 8, .inl ck1_1)), ((ra 2), .inl (ct 0, 8, .inl cp1_1)), ((ra 3), .inl (ct 0, 8, .inl ca1_1)), ((ra 4), .inl (ct 0, 8, .inl cs1_1)), ((ra 5), .inl (ct 0, 8, .inl cg1_1))] H := hP
    have hD : va_D A [((ra 0), .inr (3, [.int (nI cnt), .ref (ra 1), .ref (ra 2), .ref (ra 3), .ref (ra 4), .ref (ra 5)])), ((ra 1), .inl (ct 0, 8, .inl ck1_1)), ((ra 2), .inl (ct 0, 8, .inl cp1_1)), ((ra 3), .inl (ct 0, 8, .inl ca1_1)), ((ra 4), .inl (ct 0, 8, .inl cs1_1)), ((ra 5), .inl (ct 0, 8, .inl cg1_1))] := hD
    refine lv_iconst (v := 2) hx hb d_Row_goThroughOther_116 (by decide) ?_
    exact rW_i hx hb hr hlk hAe hS hP hD (Nat.le_of_ble_eq_true rfl) (Nat.le_of_ble_eq_true rfl) d_Row_goThroughOther_117 ⟨ck1_1, cp1_1, ca1_1, cs1_1, cg1_1, rfl, rfl, fun a j ha hj => by have hp := fR_psd2 (cp := cp) (ca := ca) (cg := cg) (sh := (k + 1)) h_41 g1 ecs_1; rw [hq_113 a j ha hj, hp a (k + 1) ha (by omega), hp a k ha (by omega), hp a j ha hj]⟩
  · refine lv_aload_n hx hb d_Row_goThroughOther_44 rfl (lv_at hl 2 rfl) ?_
    refine q_get 0 4 i_Row rfl hx hb hts hown hE hP rfl (by decide) x_154 rfl d_Row_goThroughOther_45 ?_
    refine lv_iload_n hx hb d_Row_goThroughOther_48 rfl (lv_at hl 0 rfl) ?_
    refine lv_aload_n hx hb d_Row_goThroughOther_49 rfl (lv_at hl 2 rfl) ?_
    refine q_get 0 4 i_Row rfl hx hb hts hown hE hP rfl (by decide) x_154 rfl d_Row_goThroughOther_50 ?_
    refine lv_iload_n hx hb d_Row_goThroughOther_53 rfl (lv_at hl 0 rfl) ?_
    refine q_iald (k := k) 4 hx hb hE hP rfl rfl (by omega) (by decide) d_Row_goThroughOther_54 ?_
    refine lv_aload_n hx hb d_Row_goThroughOther_55 rfl (lv_at hl 2 rfl) ?_
    refine q_get 0 4 i_Row rfl hx hb hts hown hE hP rfl (by decide) x_154 rfl d_Row_goThroughOther_56 ?_
    refine lv_iload_n hx hb d_Row_goThroughOther_59 rfl (lv_at hl 1 rfl) ?_
    refine q_iald (k := k + 1) 4 hx hb hE hP rfl rfl (by omega) (by decide) d_Row_goThroughOther_60 ?_
    refine lv_bipush (v := 10) hx hb d_Row_goThroughOther_61 (by decide) ?_
    refine lv_idiv hx hb d_Row_goThroughOther_63 (by decide) ?_
    refine lv_iadd hx hb d_Row_goThroughOther_64 ?_
    refine cRS (As := [.int ((cs k) + ((cs (k + 1)) / 10))]) (rest := [.int (nI k), .ref (ra 4)]) K_Row_held x_709 hx hb hml hown hts hE hV hS (c_Row_held l D ct st ((cs k) + ((cs (k + 1)) / 10))) (fun k q h => by simp at h) rfl hl.1 rfl (Nat.le_of_ble_eq_true rfl) d_Row_goThroughOther_65 (Nat.le_of_ble_eq_true rfl) (Nat.le_of_ble_eq_true rfl) ⟨Nat.le_of_ble_eq_true rfl, Nat.le_of_ble_eq_true rfl⟩ ?_
    obtain ⟨cs_2, ecs_2⟩ : ∃ g9 : Nat → Int32, g9 = upd cs k (mxI (-900) (mnI ((cs k) + ((cs (k + 1)) / 10)) 900)) := ⟨_, rfl⟩
    refine q_iast (k := k) 4 (ws1 := [((ra 0), .inr (3, [.int (nI cnt), .ref (ra 1), .ref (ra 2), .ref (ra 3), .ref (ra 4), .ref (ra 5)])), ((ra 1), .inl (ct 0, 8, .inl ck)), ((ra 2), .inl (ct 0, 8, .inl cp)), ((ra 3), .inl (ct 0, 8, .inl ca)), ((ra 4), .inl (ct 0, 8, .inl cs_2)), ((ra 5), .inl (ct 0, 8, .inl cg))]) ecs_2 hx hb hE hP hD hS rfl rfl (by omega) (by decide) rfl d_Row_goThroughOther_68 (fun H locs hP hD hS => ?_)
    refine lv_aload_n hx hb d_Row_goThroughOther_69 rfl (lv_at hl 2 rfl) ?_
    refine q_get 0 5 i_Row rfl hx hb hts hown hE hP rfl (by decide) x_155 rfl d_Row_goThroughOther_70 ?_
    refine lv_iload_n hx hb d_Row_goThroughOther_73 rfl (lv_at hl 1 rfl) ?_
    refine lv_iconst (v := 1) hx hb d_Row_goThroughOther_74 (by decide) ?_
    refine lv_aload_n hx hb d_Row_goThroughOther_75 rfl (lv_at hl 2 rfl) ?_
    refine q_get 0 5 i_Row rfl hx hb hts hown hE hP rfl (by decide) x_155 rfl d_Row_goThroughOther_76 ?_
    refine lv_iload_n hx hb d_Row_goThroughOther_79 rfl (lv_at hl 1 rfl) ?_
    refine q_iald (k := k + 1) 5 hx hb hE hP rfl rfl (by omega) (by decide) d_Row_goThroughOther_80 ?_
    refine lv_bipush (v := 9) hx hb d_Row_goThroughOther_81 (by decide) ?_
    refine lv_imul hx hb d_Row_goThroughOther_83 ?_
    refine lv_bipush (v := 10) hx hb d_Row_goThroughOther_84 (by decide) ?_
    refine lv_idiv hx hb d_Row_goThroughOther_86 (by decide) ?_
    refine va_mmax hx hb (by rw [hml]; exact hl.1.symm) hown (hts _ (List.mem_cons_of_mem _ x_664)) (hts _ (List.mem_cons_of_mem _ x_510)) (hts _ (List.mem_cons_of_mem _ x_13)) (hts _ (List.mem_cons_of_mem _ x_511)) (Nat.le_of_ble_eq_true rfl) (Nat.le_of_ble_eq_true rfl) (Nat.le_of_ble_eq_true rfl) (Nat.le_of_ble_eq_true rfl) d_Row_goThroughOther_87 ?_
    refine q_topi (v := (mxI 1 (((cg (k + 1)) * 9) / 10))) rfl ?_
    obtain ⟨cg_1, ecg_1⟩ : ∃ g9 : Nat → Int32, g9 = upd cg (k + 1) (mxI 1 (((cg (k + 1)) * 9) / 10)) := ⟨_, rfl⟩
    refine q_iast (k := k + 1) 5 (ws1 := [((ra 0), .inr (3, [.int (nI cnt), .ref (ra 1), .ref (ra 2), .ref (ra 3), .ref (ra 4), .ref (ra 5)])), ((ra 1), .inl (ct 0, 8, .inl ck)), ((ra 2), .inl (ct 0, 8, .inl cp)), ((ra 3), .inl (ct 0, 8, .inl ca)), ((ra 4), .inl (ct 0, 8, .inl cs_2)), ((ra 5), .inl (ct 0, 8, .inl cg_1))]) ecg_1 hx hb hE hP hD hS rfl rfl (by omega) (by decide) rfl d_Row_goThroughOther_90 (fun H locs hP hD hS => ?_)
    refine lv_goto (tgt := 111) hx hb d_Row_goThroughOther_91 (by decide) ?_
    refine lv_aload_n hx hb d_Row_goThroughOther_111 rfl (lv_at hl 2 rfl) ?_
    refine lv_iload_n hx hb d_Row_goThroughOther_112 rfl (lv_at hl 3 rfl) ?_
    refine cWV (As := [.int (nI k)]) (rest := []) (q9 := 0) (ci := 3) K_Row_changePlaces x_697 hx hb hml hown hts hE hV hS (c_Row_changePlaces l D ct st ra cnt ck cp ca cs_2 cg_1 k (by omega) _) hP hD hA [0, 1, 2, 3, 4, 5] [] (wr := []) rfl rfl (by decide) (by decide) (by decide) rfl hP rfl rfl hl.1 rfl (Nat.le_of_ble_eq_true rfl) d_Row_goThroughOther_113 (Nat.le_of_ble_eq_true rfl) (Nat.le_of_ble_eq_true rfl) ⟨Nat.le_of_ble_eq_true rfl, Nat.le_of_ble_eq_true rfl⟩ (fun v W1 H locs hpost hP hD hS => ?_)
    obtain ⟨ck1_2, cp1_2, ca1_2, cs1_2, cg1_2, rfl, rfl, hq_113⟩ := hpost
    have hP : va_P D classes [((ra 0), .inr (3, [.int (nI cnt), .ref (ra 1), .ref (ra 2), .ref (ra 3), .ref (ra 4), .ref (ra 5)])), ((ra 1), .inl (ct 0, 8, .inl ck1_2)), ((ra 2), .inl (ct 0, 8, .inl cp1_2)), ((ra 3), .inl (ct 0, 8, .inl ca1_2)), ((ra 4), .inl (ct 0, 8, .inl cs1_2)), ((ra 5), .inl (ct 0, 8, .inl cg1_2))] H := hP
    have hD : va_D A [((ra 0), .inr (3, [.int (nI cnt), .ref (ra 1), .ref (ra 2), .ref (ra 3), .ref (ra 4), .ref (ra 5)])), ((ra 1), .inl (ct 0, 8, .inl ck1_2)), ((ra 2), .inl (ct 0, 8, .inl cp1_2)), ((ra 3), .inl (ct 0, 8, .inl ca1_2)), ((ra 4), .inl (ct 0, 8, .inl cs1_2)), ((ra 5), .inl (ct 0, 8, .inl cg1_2))] := hD
    refine lv_iconst (v := 2) hx hb d_Row_goThroughOther_116 (by decide) ?_
    exact rW_i hx hb hr hlk hAe hS hP hD (Nat.le_of_ble_eq_true rfl) (Nat.le_of_ble_eq_true rfl) d_Row_goThroughOther_117 ⟨ck1_2, cp1_2, ca1_2, cs1_2, cg1_2, rfl, rfl, fun a j ha hj => by have hp := fR_psd1 (cp := cp) (ca := ca) h_41 g1 g3 g4 ecs_2 ecg_1; rw [hq_113 a j ha hj, hp a (k + 1) ha (by omega), hp a k ha (by omega), hp a j ha hj]⟩
