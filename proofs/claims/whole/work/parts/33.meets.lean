theorem mt_c2 {F : RF} {n k : Nat} (h : ¬ (F 0 k = 0 ∧ F 0 (k + 1) = 0)) (h2 : F 0 k = 0 ∨ F 0 (k + 1) = 0) : mt n F k = (n, mt_pass F k, k + 1) := by unfold mt; rw [if_neg h, if_pos h2]
theorem mt_c3 {F : RF} {n k : Nat} (h2 : ¬ (F 0 k = 0 ∨ F 0 (k + 1) = 0)) : mt n F k = (n - 1, mt_left F k, k) := by unfold mt; rw [if_neg (fun z => h2 (Or.inl z.1)), if_neg h2]
theorem meanI {x y : Int32} (h1 : 0 ≤ x.toInt ∧ x.toInt ≤ 100000) (h2 : 0 ≤ y.toInt ∧ y.toInt ≤ 100000) : ((x + y) / 2).toInt = (x.toInt + y.toInt) / 2 := by
  rw [divI_toInt (by decide), fb_addI (by omega) (by omega), Int.tdiv_eq_ediv_of_nonneg (by omega)]; rfl
theorem plc_set {F : RF} {k : Nat} {y : Int} {A1 B1 : RF} (h1 : ∀ a j, a < 5 → j < 8 → A1 a j = if (a = 1 ∨ a = 4) ∧ j = k then y else F a j) (h2 : ∀ a j, a < 5 → j < 8 → B1 a j = if (a = 1 ∨ a = 4) ∧ j = k + 1 then y else A1 a j) : ∀ a j, a < 5 → j < 8 → B1 a j = plc F k y a j := by
  intro a j ha hj
  rw [h2 a j ha hj, h1 a j ha hj]
  unfold plc
  by_cases q1 : a = 1 ∨ a = 4 <;> by_cases q2 : j = k <;> by_cases q3 : j = k + 1 <;> simp [q1, q2, q3]

set_option maxHeartbeats 4000000 in
set_option maxRecDepth 100000 in
theorem c_Row_meet (l : Launch) (D : va_G) (ct : Nat → ClassId) (st : Nat → Nat) (ra : Nat → Nat) (cnt : Nat) (ck : Nat → Int32) (cp : Nat → Int32) (ca : Nat → Int32) (cs : Nat → Int32) (cg : Nat → Int32) (k : Nat) (hn8 : cnt ≤ 8) (hk : k + 1 < cnt) (hFB : FB cnt (fR ck cp cs cg ca)) (sz : Nat) : Met l y_Row_meet (wsy y_Row_meet b_Row_meet 4 (some .int)) (rmW 4 0 0 91) (PcW D ct st [.ref (ra 0), .int (nI k)] [((ra 0), .inr (3, [.int (nI cnt), .ref (ra 1), .ref (ra 2), .ref (ra 3), .ref (ra 4), .ref (ra 5)])), ((ra 1), .inl (ct 0, 8, .inl ck)), ((ra 2), .inl (ct 0, 8, .inl cp)), ((ra 3), .inl (ct 0, 8, .inl ca)), ((ra 4), .inl (ct 0, 8, .inl cs)), ((ra 5), .inl (ct 0, 8, .inl cg))] sz) (QcW D [((ra 0), .inr (3, [.int (nI cnt), .ref (ra 1), .ref (ra 2), .ref (ra 3), .ref (ra 4), .ref (ra 5)])), ((ra 1), .inl (ct 0, 8, .inl ck)), ((ra 2), .inl (ct 0, 8, .inl cp)), ((ra 3), .inl (ct 0, 8, .inl ca)), ((ra 4), .inl (ct 0, 8, .inl cs)), ((ra 5), .inl (ct 0, 8, .inl cg))] sz (fun v W1 => ∃ (ck1 : Nat → Int32) (cp1 : Nat → Int32) (ca1 : Nat → Int32) (cs1 : Nat → Int32) (cg1 : Nat → Int32) (c9 : Nat) (rv9 : Nat), v = some (.int (nI rv9)) ∧ W1 = [((ra 0), .inr (3, [.int (nI c9), .ref (ra 1), .ref (ra 2), .ref (ra 3), .ref (ra 4), .ref (ra 5)])), ((ra 1), .inl (ct 0, 8, .inl ck1)), ((ra 2), .inl (ct 0, 8, .inl cp1)), ((ra 3), .inl (ct 0, 8, .inl ca1)), ((ra 4), .inl (ct 0, 8, .inl cs1)), ((ra 5), .inl (ct 0, 8, .inl cg1))] ∧ (c9 = (mt cnt (fR ck cp cs cg ca) k).1 ∧ rv9 + k = (mt cnt (fR ck cp cs cg ca) k).2.2 + 1 ∧ ∀ a j, a < 5 → j < c9 → fR ck1 cp1 cs1 cg1 ca1 a j = (mt cnt (fR ck cp cs cg ca) k).2.1 a j))) 0 0 (va_A [((ra 0), .inr (3, [.int (nI cnt), .ref (ra 1), .ref (ra 2), .ref (ra 3), .ref (ra 4), .ref (ra 5)])), ((ra 1), .inl (ct 0, 8, .inl ck)), ((ra 2), .inl (ct 0, 8, .inl cp)), ((ra 3), .inl (ct 0, 8, .inl ca)), ((ra 4), .inl (ct 0, 8, .inl cs)), ((ra 5), .inl (ct 0, 8, .inl cg))] sz) := by
  refine enterW (by decide) (Nat.le_of_ble_eq_true rfl) ?_
  intro p e s m args below meth c ls A hx hb hr hml hown hts hlk hin hsz hAe hP hD hA hE hV hS hl
  have hl : lv_has ls 4 [(0, .ref (ra 0)), (1, .int (nI k))] := hl
  obtain ⟨p0, p1, p2, p3⟩ := hFB k (by omega)
  obtain ⟨q0, q1, q2, q3⟩ := hFB (k + 1) hk
  refine lv_iload_n hx hb d_Row_meet_0 rfl (lv_at hl 1 rfl) ?_
  refine lv_iconst (v := 1) hx hb d_Row_meet_1 (by decide) ?_
  refine q_iadd (v := nI (k + 1)) hx hb d_Row_meet_2 (nI_add k 1) ?_
  refine lv_istore_n (lv' := [(2, .int (nI (k + 1))), (0, .ref (ra 0)), (1, .int (nI k))]) hx hb d_Row_meet_3 rfl hl (by decide) rfl (fun ls hl => ?_)
  refine lv_aload_n hx hb d_Row_meet_4 rfl (lv_at hl 1 rfl) ?_
  refine q_get 0 2 i_Row rfl hx hb hts hown hE hP rfl (by decide) x_156 rfl d_Row_meet_5 ?_
  refine lv_iload_n hx hb d_Row_meet_8 rfl (lv_at hl 2 rfl) ?_
  refine q_iald (k := k) 2 hx hb hE hP rfl rfl (by omega) (by decide) d_Row_meet_9 ?_
  refine lv_aload_n hx hb d_Row_meet_10 rfl (lv_at hl 1 rfl) ?_
  refine q_get 0 2 i_Row rfl hx hb hts hown hE hP rfl (by decide) x_156 rfl d_Row_meet_11 ?_
  refine lv_iload_n hx hb d_Row_meet_14 rfl (lv_at hl 0 rfl) ?_
  refine q_iald (k := k + 1) 2 hx hb hE hP rfl rfl (by omega) (by decide) d_Row_meet_15 ?_
  refine lv_iadd hx hb d_Row_meet_16 ?_
  refine lv_iconst (v := 2) hx hb d_Row_meet_17 (by decide) ?_
  refine lv_idiv hx hb d_Row_meet_18 (by decide) ?_
  refine lv_topi (fun y9 ey9 => ?_)
  refine lv_istore_n (lv' := [(3, .int y9), (2, .int (nI (k + 1))), (0, .ref (ra 0)), (1, .int (nI k))]) hx hb d_Row_meet_19 rfl hl (by decide) rfl (fun ls hl => ?_)
  refine lv_aload_n hx hb d_Row_meet_20 rfl (lv_at hl 2 rfl) ?_
  refine lv_iload_n hx hb d_Row_meet_21 rfl (lv_at hl 3 rfl) ?_
  refine lv_iload_n hx hb d_Row_meet_22 rfl (lv_at hl 0 rfl) ?_
  refine cWV (As := [.int (nI k), .int y9]) (rest := []) (q9 := 0) (ci := 3) K_Row_setPlace x_741 hx hb hml hown hts hE hV hS (c_Row_setPlace l D ct st ra cnt ck cp ca cs cg k y9 (by omega) _) hP hD hA [0, 1, 2, 3, 4, 5] [] (wr := []) rfl rfl (by decide) (by decide) (by decide) rfl hP rfl rfl hl.1 rfl (Nat.le_of_ble_eq_true rfl) d_Row_meet_23 (Nat.le_of_ble_eq_true rfl) (Nat.le_of_ble_eq_true rfl) ⟨Nat.le_of_ble_eq_true rfl, Nat.le_of_ble_eq_true rfl⟩ (fun v W1 H locs hpost hP hD hS => ?_)
  obtain ⟨cp1_1, ca1_1, rfl, rfl, hq_23⟩ := hpost
  have hP : va_P D classes [((ra 0), .inr (3, [.int (nI cnt), .ref (ra 1), .ref (ra 2), .ref (ra 3), .ref (ra 4), .ref (ra 5)])), ((ra 1), .inl (ct 0, 8, .inl ck)), ((ra 2), .inl (ct 0, 8, .inl cp1_1)), ((ra 3), .inl (ct 0, 8, .inl ca1_1)), ((ra 4), .inl (ct 0, 8, .inl cs)), ((ra 5), .inl (ct 0, 8, .inl cg))] H := hP
  have hD : va_D A [((ra 0), .inr (3, [.int (nI cnt), .ref (ra 1), .ref (ra 2), .ref (ra 3), .ref (ra 4), .ref (ra 5)])), ((ra 1), .inl (ct 0, 8, .inl ck)), ((ra 2), .inl (ct 0, 8, .inl cp1_1)), ((ra 3), .inl (ct 0, 8, .inl ca1_1)), ((ra 4), .inl (ct 0, 8, .inl cs)), ((ra 5), .inl (ct 0, 8, .inl cg))] := hD
  refine lv_aload_n hx hb d_Row_meet_26 rfl (lv_at hl 2 rfl) ?_
  refine lv_iload_n hx hb d_Row_meet_27 rfl (lv_at hl 1 rfl) ?_
  refine lv_iload_n hx hb d_Row_meet_28 rfl (lv_at hl 0 rfl) ?_
  refine cWV (As := [.int (nI (k + 1)), .int y9]) (rest := []) (q9 := 0) (ci := 3) K_Row_setPlace x_741 hx hb hml hown hts hE hV hS (c_Row_setPlace l D ct st ra cnt ck cp1_1 ca1_1 cs cg (k + 1) y9 (by omega) _) hP hD hA [0, 1, 2, 3, 4, 5] [] (wr := []) rfl rfl (by decide) (by decide) (by decide) rfl hP rfl rfl hl.1 rfl (Nat.le_of_ble_eq_true rfl) d_Row_meet_29 (Nat.le_of_ble_eq_true rfl) (Nat.le_of_ble_eq_true rfl) ⟨Nat.le_of_ble_eq_true rfl, Nat.le_of_ble_eq_true rfl⟩ (fun v W1 H locs hpost hP hD hS => ?_)
  obtain ⟨cp1_2, ca1_2, rfl, rfl, hq_29⟩ := hpost
  have hP : va_P D classes [((ra 0), .inr (3, [.int (nI cnt), .ref (ra 1), .ref (ra 2), .ref (ra 3), .ref (ra 4), .ref (ra 5)])), ((ra 1), .inl (ct 0, 8, .inl ck)), ((ra 2), .inl (ct 0, 8, .inl cp1_2)), ((ra 3), .inl (ct 0, 8, .inl ca1_2)), ((ra 4), .inl (ct 0, 8, .inl cs)), ((ra 5), .inl (ct 0, 8, .inl cg))] H := hP
  have hD : va_D A [((ra 0), .inr (3, [.int (nI cnt), .ref (ra 1), .ref (ra 2), .ref (ra 3), .ref (ra 4), .ref (ra 5)])), ((ra 1), .inl (ct 0, 8, .inl ck)), ((ra 2), .inl (ct 0, 8, .inl cp1_2)), ((ra 3), .inl (ct 0, 8, .inl ca1_2)), ((ra 4), .inl (ct 0, 8, .inl cs)), ((ra 5), .inl (ct 0, 8, .inl cg))] := hD
  have hy : y9.toInt = mt_pl (fR ck cp cs cg ca) k := by unfold mt_pl; rw [ey9, fR1, fR1]; rw [fR1] at p1 q1; exact meanI p1 q1
  have hG := plc_set hq_23 hq_29
  rw [hy] at hG
  refine lv_aload_n hx hb d_Row_meet_32 rfl (lv_at hl 2 rfl) ?_
  refine q_get 0 1 i_Row rfl hx hb hts hown hE hP rfl (by decide) x_155 rfl d_Row_meet_33 ?_
  refine lv_iload_n hx hb d_Row_meet_36 rfl (lv_at hl 3 rfl) ?_
  refine q_iald (k := k) 1 hx hb hE hP rfl rfl (by omega) (by decide) d_Row_meet_37 ?_
  refine lv_if_ne (tgt := 56) hx hb d_Row_meet_38 (by decide) (fun h_38 => ?_) (fun h_38 => ?_)
  · have z38 : ¬ (fR ck cp cs cg ca) 0 (k) = 0 := by rw [fR0]; exact fun z => h_38 (Int32.toInt_inj.mp z)
    refine lv_aload_n hx hb d_Row_meet_56 rfl (lv_at hl 2 rfl) ?_
    refine q_get 0 1 i_Row rfl hx hb hts hown hE hP rfl (by decide) x_155 rfl d_Row_meet_57 ?_
    refine lv_iload_n hx hb d_Row_meet_60 rfl (lv_at hl 3 rfl) ?_
    refine q_iald (k := k) 1 hx hb hE hP rfl rfl (by omega) (by decide) d_Row_meet_61 ?_
    refine lv_if_eq (tgt := 74) hx hb d_Row_meet_62 (by decide) (fun h_62 => ?_) (fun h_62 => ?_)
    · have z62 : (fR ck cp cs cg ca) 0 k = 0 := by rw [fR0, h_62]; rfl
      refine lv_aload_n hx hb d_Row_meet_74 rfl (lv_at hl 2 rfl) ?_
      refine lv_iload_n hx hb d_Row_meet_75 rfl (lv_at hl 3 rfl) ?_
      refine cWV (As := [.int (nI k)]) (rest := []) (q9 := 0) (ci := 3) K_Row_goThroughOther x_765 hx hb hml hown hts hE hV hS (c_Row_goThroughOther_0 l D ct st ra cnt ck cp1_2 ca1_2 cs cg k (by omega) (h_62) (by rw [show (cs k).toInt = (fR ck cp cs cg ca) 2 (k) from fR2 _ _ _ _ _ _ |>.symm]; exact ⟨p2.1, p2.2⟩) (by rw [show (cg k).toInt = (fR ck cp cs cg ca) 3 (k) from fR3 _ _ _ _ _ _ |>.symm]; exact ⟨p3.1, p3.2⟩) (by rw [show (cs (k + 1)).toInt = (fR ck cp cs cg ca) 2 (k + 1) from fR2 _ _ _ _ _ _ |>.symm]; exact ⟨q2.1, q2.2⟩) (by rw [show (cg (k + 1)).toInt = (fR ck cp cs cg ca) 3 (k + 1) from fR3 _ _ _ _ _ _ |>.symm]; exact ⟨q3.1, q3.2⟩) _) hP hD hA [0, 1, 2, 3, 4, 5] [] (wr := []) rfl rfl (by decide) (by decide) (by decide) rfl hP rfl rfl hl.1 rfl (Nat.le_of_ble_eq_true rfl) d_Row_meet_76 (Nat.le_of_ble_eq_true rfl) (Nat.le_of_ble_eq_true rfl) ⟨Nat.le_of_ble_eq_true rfl, Nat.le_of_ble_eq_true rfl⟩ (fun v W1 H locs hpost hP hD hS => ?_)
      obtain ⟨ck1_1, cp1_3, ca1_3, cs1_1, cg1_1, rfl, rfl, hq_76⟩ := hpost
      have hP : va_P D classes [((ra 0), .inr (3, [.int (nI cnt), .ref (ra 1), .ref (ra 2), .ref (ra 3), .ref (ra 4), .ref (ra 5)])), ((ra 1), .inl (ct 0, 8, .inl ck1_1)), ((ra 2), .inl (ct 0, 8, .inl cp1_3)), ((ra 3), .inl (ct 0, 8, .inl ca1_3)), ((ra 4), .inl (ct 0, 8, .inl cs1_1)), ((ra 5), .inl (ct 0, 8, .inl cg1_1))] H := hP
      have hD : va_D A [((ra 0), .inr (3, [.int (nI cnt), .ref (ra 1), .ref (ra 2), .ref (ra 3), .ref (ra 4), .ref (ra 5)])), ((ra 1), .inl (ct 0, 8, .inl ck1_1)), ((ra 2), .inl (ct 0, 8, .inl cp1_3)), ((ra 3), .inl (ct 0, 8, .inl ca1_3)), ((ra 4), .inl (ct 0, 8, .inl cs1_1)), ((ra 5), .inl (ct 0, 8, .inl cg1_1))] := hD
      exact rW_i hx hb hr hlk hAe hS hP hD (Nat.le_of_ble_eq_true rfl) (Nat.le_of_ble_eq_true rfl) d_Row_meet_79 ⟨ck1_1, cp1_3, ca1_3, cs1_1, cg1_1, cnt, 2, rfl, rfl, by rw [mt_c2 (fun z => by first | exact z47 z.2 | exact z38 z.1) (by first | exact Or.inl z62 | exact Or.inr z71)]; exact ⟨rfl, by show 2 + k = k + 1 + 1; omega, fun a j ha hj => (hq_76 a j ha (by omega)).trans ((swp_cg (psd_cg hG (by omega) (by omega)) (by omega) a j ha (by omega)).trans (pas_eq0 z62 a j ha))⟩⟩
    · have z62 : ¬ (fR ck cp cs cg ca) 0 k = 0 := by rw [fR0]; exact fun z => h_62 (Int32.toInt_inj.mp z)
      refine lv_aload_n hx hb d_Row_meet_65 rfl (lv_at hl 2 rfl) ?_
      refine q_get 0 1 i_Row rfl hx hb hts hown hE hP rfl (by decide) x_155 rfl d_Row_meet_66 ?_
      refine lv_iload_n hx hb d_Row_meet_69 rfl (lv_at hl 1 rfl) ?_
      refine q_iald (k := k + 1) 1 hx hb hE hP rfl rfl (by omega) (by decide) d_Row_meet_70 ?_
      refine lv_if_ne (tgt := 80) hx hb d_Row_meet_71 (by decide) (fun h_71 => ?_) (fun h_71 => ?_)
      · have z71 : ¬ (fR ck cp cs cg ca) 0 (k + 1) = 0 := by rw [fR0]; exact fun z => h_71 (Int32.toInt_inj.mp z)
        refine lv_aload_n hx hb d_Row_meet_80 rfl (lv_at hl 2 rfl) ?_
        refine q_get 0 1 i_Row rfl hx hb hts hown hE hP rfl (by decide) x_155 rfl d_Row_meet_81 ?_
        refine lv_iload_n hx hb d_Row_meet_84 rfl (lv_at hl 3 rfl) ?_
        refine q_iald (k := k) 1 hx hb hE hP rfl rfl (by omega) (by decide) d_Row_meet_85 ?_
        refine lv_aload_n hx hb d_Row_meet_86 rfl (lv_at hl 2 rfl) ?_
        refine q_get 0 1 i_Row rfl hx hb hts hown hE hP rfl (by decide) x_155 rfl d_Row_meet_87 ?_
        refine lv_iload_n hx hb d_Row_meet_90 rfl (lv_at hl 1 rfl) ?_
        refine q_iald (k := k + 1) 1 hx hb hE hP rfl rfl (by omega) (by decide) d_Row_meet_91 ?_
        refine lv_icmp_eq (tgt := 117) hx hb d_Row_meet_92 (by decide) (fun h_92 => ?_) (fun h_92 => ?_)
        · refine lv_aload_n hx hb d_Row_meet_117 rfl (lv_at hl 2 rfl) ?_
          refine lv_aload_n hx hb d_Row_meet_118 rfl (lv_at hl 2 rfl) ?_
          refine q_get 0 5 i_Row rfl hx hb hts hown hE hP rfl (by decide) x_159 rfl d_Row_meet_119 ?_
          refine lv_iload_n hx hb d_Row_meet_122 rfl (lv_at hl 1 rfl) ?_
          refine q_iald (k := k + 1) 5 hx hb hE hP rfl rfl (by omega) (by decide) d_Row_meet_123 ?_
          refine lv_aload_n hx hb d_Row_meet_124 rfl (lv_at hl 2 rfl) ?_
          refine q_get 0 5 i_Row rfl hx hb hts hown hE hP rfl (by decide) x_159 rfl d_Row_meet_125 ?_
          refine lv_iload_n hx hb d_Row_meet_128 rfl (lv_at hl 3 rfl) ?_
          refine q_iald (k := k) 5 hx hb hE hP rfl rfl (by omega) (by decide) d_Row_meet_129 ?_
          refine lv_icmp_le (tgt := 137) hx hb d_Row_meet_130 (by decide) (fun h_130 => ?_) (fun h_130 => ?_)
          · refine lv_iload_n hx hb d_Row_meet_137 rfl (lv_at hl 1 rfl) ?_
            refine cWV (As := [.int (nI (k + 1))]) (rest := []) (q9 := 0) (ci := 3) K_Row_takeOut x_753 hx hb hml hown hts hE hV hS (c_Row_takeOut l D ct st ra cnt ck cp1_2 ca1_2 cs cg (k + 1) (by omega) (by omega) _) hP hD hA [0, 1, 2, 3, 4, 5] [] (wr := []) rfl rfl (by decide) (by decide) (by decide) rfl hP rfl rfl hl.1 rfl (Nat.le_of_ble_eq_true rfl) d_Row_meet_138 (Nat.le_of_ble_eq_true rfl) (Nat.le_of_ble_eq_true rfl) ⟨Nat.le_of_ble_eq_true rfl, Nat.le_of_ble_eq_true rfl⟩ (fun v W1 H locs hpost hP hD hS => ?_)
            obtain ⟨ck1_2, cp1_4, ca1_4, cs1_2, cg1_2, rfl, rfl, hq_138⟩ := hpost
            have hP : va_P D classes [((ra 0), .inr (3, [.int (nI (cnt - 1)), .ref (ra 1), .ref (ra 2), .ref (ra 3), .ref (ra 4), .ref (ra 5)])), ((ra 1), .inl (ct 0, 8, .inl ck1_2)), ((ra 2), .inl (ct 0, 8, .inl cp1_4)), ((ra 3), .inl (ct 0, 8, .inl ca1_4)), ((ra 4), .inl (ct 0, 8, .inl cs1_2)), ((ra 5), .inl (ct 0, 8, .inl cg1_2))] H := hP
            have hD : va_D A [((ra 0), .inr (3, [.int (nI (cnt - 1)), .ref (ra 1), .ref (ra 2), .ref (ra 3), .ref (ra 4), .ref (ra 5)])), ((ra 1), .inl (ct 0, 8, .inl ck1_2)), ((ra 2), .inl (ct 0, 8, .inl cp1_4)), ((ra 3), .inl (ct 0, 8, .inl ca1_4)), ((ra 4), .inl (ct 0, 8, .inl cs1_2)), ((ra 5), .inl (ct 0, 8, .inl cg1_2))] := hD
            refine lv_iconst (v := 1) hx hb d_Row_meet_141 (by decide) ?_
            exact rW_i hx hb hr hlk hAe hS hP hD (Nat.le_of_ble_eq_true rfl) (Nat.le_of_ble_eq_true rfl) d_Row_meet_142 ⟨ck1_2, cp1_4, ca1_4, cs1_2, cg1_2, cnt - 1, 1, rfl, rfl, by have hg9 : mt_gone (fR ck cp cs cg ca) k = k + 1 := (by unfold mt_gone; rw [fR0, fR0, fR3, fR3]; first | rw [if_neg (fun z => h_92 (Int32.toInt_inj.mp z)), if_neg (fun z => h_103 (Int32.toInt_inj.mp (show (ck k).toInt = (2 : Int32).toInt from z)))] | rw [if_neg (fun z => h_92 (Int32.toInt_inj.mp z)), if_pos (show (ck k).toInt = (2 : Int32).toInt from congrArg Int32.toInt h_103)] | rw [if_pos (congrArg Int32.toInt h_92), if_neg (fun z => absurd (Int32.lt_iff_toInt_lt.mpr z) (Int32.not_lt.mpr h_130))] | rw [if_pos (congrArg Int32.toInt h_92), if_pos (Int32.lt_iff_toInt_lt.mp (Int32.not_le.mp h_130))]); rw [mt_c3 (fun z => z.elim z62 z71)]; exact ⟨rfl, by show 1 + k = k + 1; omega, fun a j ha hj => by first | exact (hq_111 a j ha hj).trans ((rem_cg hG hn8 a j ha hj).trans (by have z := lef_rem (fR ck cp cs cg ca) k a j ha; rw [hg9] at z; exact z)) | exact (hq_138 a j ha hj).trans ((rem_cg hG hn8 a j ha hj).trans (by have z := lef_rem (fR ck cp cs cg ca) k a j ha; rw [hg9] at z; exact z))⟩⟩
          · refine lv_iload_n hx hb d_Row_meet_133 rfl (lv_at hl 3 rfl) ?_
            refine lv_goto (tgt := 138) hx hb d_Row_meet_134 (by decide) ?_
            refine cWV (As := [.int (nI k)]) (rest := []) (q9 := 0) (ci := 3) K_Row_takeOut x_753 hx hb hml hown hts hE hV hS (c_Row_takeOut l D ct st ra cnt ck cp1_2 ca1_2 cs cg k (by omega) (by omega) _) hP hD hA [0, 1, 2, 3, 4, 5] [] (wr := []) rfl rfl (by decide) (by decide) (by decide) rfl hP rfl rfl hl.1 rfl (Nat.le_of_ble_eq_true rfl) d_Row_meet_138 (Nat.le_of_ble_eq_true rfl) (Nat.le_of_ble_eq_true rfl) ⟨Nat.le_of_ble_eq_true rfl, Nat.le_of_ble_eq_true rfl⟩ (fun v W1 H locs hpost hP hD hS => ?_)
            obtain ⟨ck1_3, cp1_5, ca1_5, cs1_3, cg1_3, rfl, rfl, hq_138⟩ := hpost
            have hP : va_P D classes [((ra 0), .inr (3, [.int (nI (cnt - 1)), .ref (ra 1), .ref (ra 2), .ref (ra 3), .ref (ra 4), .ref (ra 5)])), ((ra 1), .inl (ct 0, 8, .inl ck1_3)), ((ra 2), .inl (ct 0, 8, .inl cp1_5)), ((ra 3), .inl (ct 0, 8, .inl ca1_5)), ((ra 4), .inl (ct 0, 8, .inl cs1_3)), ((ra 5), .inl (ct 0, 8, .inl cg1_3))] H := hP
            have hD : va_D A [((ra 0), .inr (3, [.int (nI (cnt - 1)), .ref (ra 1), .ref (ra 2), .ref (ra 3), .ref (ra 4), .ref (ra 5)])), ((ra 1), .inl (ct 0, 8, .inl ck1_3)), ((ra 2), .inl (ct 0, 8, .inl cp1_5)), ((ra 3), .inl (ct 0, 8, .inl ca1_5)), ((ra 4), .inl (ct 0, 8, .inl cs1_3)), ((ra 5), .inl (ct 0, 8, .inl cg1_3))] := hD
            refine lv_iconst (v := 1) hx hb d_Row_meet_141 (by decide) ?_
            exact rW_i hx hb hr hlk hAe hS hP hD (Nat.le_of_ble_eq_true rfl) (Nat.le_of_ble_eq_true rfl) d_Row_meet_142 ⟨ck1_3, cp1_5, ca1_5, cs1_3, cg1_3, cnt - 1, 1, rfl, rfl, by have hg9 : mt_gone (fR ck cp cs cg ca) k = k := (by unfold mt_gone; rw [fR0, fR0, fR3, fR3]; first | rw [if_neg (fun z => h_92 (Int32.toInt_inj.mp z)), if_neg (fun z => h_103 (Int32.toInt_inj.mp (show (ck k).toInt = (2 : Int32).toInt from z)))] | rw [if_neg (fun z => h_92 (Int32.toInt_inj.mp z)), if_pos (show (ck k).toInt = (2 : Int32).toInt from congrArg Int32.toInt h_103)] | rw [if_pos (congrArg Int32.toInt h_92), if_neg (fun z => absurd (Int32.lt_iff_toInt_lt.mpr z) (Int32.not_lt.mpr h_130))] | rw [if_pos (congrArg Int32.toInt h_92), if_pos (Int32.lt_iff_toInt_lt.mp (Int32.not_le.mp h_130))]); rw [mt_c3 (fun z => z.elim z62 z71)]; exact ⟨rfl, by show 1 + k = k + 1; omega, fun a j ha hj => by first | exact (hq_111 a j ha hj).trans ((rem_cg hG hn8 a j ha hj).trans (by have z := lef_rem (fR ck cp cs cg ca) k a j ha; rw [hg9] at z; exact z)) | exact (hq_138 a j ha hj).trans ((rem_cg hG hn8 a j ha hj).trans (by have z := lef_rem (fR ck cp cs cg ca) k a j ha; rw [hg9] at z; exact z))⟩⟩
        · refine lv_aload_n hx hb d_Row_meet_95 rfl (lv_at hl 2 rfl) ?_
          refine lv_aload_n hx hb d_Row_meet_96 rfl (lv_at hl 2 rfl) ?_
          refine q_get 0 1 i_Row rfl hx hb hts hown hE hP rfl (by decide) x_155 rfl d_Row_meet_97 ?_
          refine lv_iload_n hx hb d_Row_meet_100 rfl (lv_at hl 3 rfl) ?_
          refine q_iald (k := k) 1 hx hb hE hP rfl rfl (by omega) (by decide) d_Row_meet_101 ?_
          refine lv_iconst (v := 2) hx hb d_Row_meet_102 (by decide) ?_
          refine lv_icmp_ne (tgt := 110) hx hb d_Row_meet_103 (by decide) (fun h_103 => ?_) (fun h_103 => ?_)
          · refine lv_iload_n hx hb d_Row_meet_110 rfl (lv_at hl 1 rfl) ?_
            refine cWV (As := [.int (nI (k + 1))]) (rest := []) (q9 := 0) (ci := 3) K_Row_takeOut x_753 hx hb hml hown hts hE hV hS (c_Row_takeOut l D ct st ra cnt ck cp1_2 ca1_2 cs cg (k + 1) (by omega) (by omega) _) hP hD hA [0, 1, 2, 3, 4, 5] [] (wr := []) rfl rfl (by decide) (by decide) (by decide) rfl hP rfl rfl hl.1 rfl (Nat.le_of_ble_eq_true rfl) d_Row_meet_111 (Nat.le_of_ble_eq_true rfl) (Nat.le_of_ble_eq_true rfl) ⟨Nat.le_of_ble_eq_true rfl, Nat.le_of_ble_eq_true rfl⟩ (fun v W1 H locs hpost hP hD hS => ?_)
            obtain ⟨ck1_4, cp1_6, ca1_6, cs1_4, cg1_4, rfl, rfl, hq_111⟩ := hpost
            have hP : va_P D classes [((ra 0), .inr (3, [.int (nI (cnt - 1)), .ref (ra 1), .ref (ra 2), .ref (ra 3), .ref (ra 4), .ref (ra 5)])), ((ra 1), .inl (ct 0, 8, .inl ck1_4)), ((ra 2), .inl (ct 0, 8, .inl cp1_6)), ((ra 3), .inl (ct 0, 8, .inl ca1_6)), ((ra 4), .inl (ct 0, 8, .inl cs1_4)), ((ra 5), .inl (ct 0, 8, .inl cg1_4))] H := hP
            have hD : va_D A [((ra 0), .inr (3, [.int (nI (cnt - 1)), .ref (ra 1), .ref (ra 2), .ref (ra 3), .ref (ra 4), .ref (ra 5)])), ((ra 1), .inl (ct 0, 8, .inl ck1_4)), ((ra 2), .inl (ct 0, 8, .inl cp1_6)), ((ra 3), .inl (ct 0, 8, .inl ca1_6)), ((ra 4), .inl (ct 0, 8, .inl cs1_4)), ((ra 5), .inl (ct 0, 8, .inl cg1_4))] := hD
            refine lv_goto (tgt := 141) hx hb d_Row_meet_114 (by decide) ?_
            refine lv_iconst (v := 1) hx hb d_Row_meet_141 (by decide) ?_
            exact rW_i hx hb hr hlk hAe hS hP hD (Nat.le_of_ble_eq_true rfl) (Nat.le_of_ble_eq_true rfl) d_Row_meet_142 ⟨ck1_4, cp1_6, ca1_6, cs1_4, cg1_4, cnt - 1, 1, rfl, rfl, by have hg9 : mt_gone (fR ck cp cs cg ca) k = k + 1 := (by unfold mt_gone; rw [fR0, fR0, fR3, fR3]; first | rw [if_neg (fun z => h_92 (Int32.toInt_inj.mp z)), if_neg (fun z => h_103 (Int32.toInt_inj.mp (show (ck k).toInt = (2 : Int32).toInt from z)))] | rw [if_neg (fun z => h_92 (Int32.toInt_inj.mp z)), if_pos (show (ck k).toInt = (2 : Int32).toInt from congrArg Int32.toInt h_103)] | rw [if_pos (congrArg Int32.toInt h_92), if_neg (fun z => absurd (Int32.lt_iff_toInt_lt.mpr z) (Int32.not_lt.mpr h_130))] | rw [if_pos (congrArg Int32.toInt h_92), if_pos (Int32.lt_iff_toInt_lt.mp (Int32.not_le.mp h_130))]); rw [mt_c3 (fun z => z.elim z62 z71)]; exact ⟨rfl, by show 1 + k = k + 1; omega, fun a j ha hj => by first | exact (hq_111 a j ha hj).trans ((rem_cg hG hn8 a j ha hj).trans (by have z := lef_rem (fR ck cp cs cg ca) k a j ha; rw [hg9] at z; exact z)) | exact (hq_138 a j ha hj).trans ((rem_cg hG hn8 a j ha hj).trans (by have z := lef_rem (fR ck cp cs cg ca) k a j ha; rw [hg9] at z; exact z))⟩⟩
          · refine lv_iload_n hx hb d_Row_meet_106 rfl (lv_at hl 3 rfl) ?_
            refine lv_goto (tgt := 111) hx hb d_Row_meet_107 (by decide) ?_
            refine cWV (As := [.int (nI k)]) (rest := []) (q9 := 0) (ci := 3) K_Row_takeOut x_753 hx hb hml hown hts hE hV hS (c_Row_takeOut l D ct st ra cnt ck cp1_2 ca1_2 cs cg k (by omega) (by omega) _) hP hD hA [0, 1, 2, 3, 4, 5] [] (wr := []) rfl rfl (by decide) (by decide) (by decide) rfl hP rfl rfl hl.1 rfl (Nat.le_of_ble_eq_true rfl) d_Row_meet_111 (Nat.le_of_ble_eq_true rfl) (Nat.le_of_ble_eq_true rfl) ⟨Nat.le_of_ble_eq_true rfl, Nat.le_of_ble_eq_true rfl⟩ (fun v W1 H locs hpost hP hD hS => ?_)
            obtain ⟨ck1_5, cp1_7, ca1_7, cs1_5, cg1_5, rfl, rfl, hq_111⟩ := hpost
            have hP : va_P D classes [((ra 0), .inr (3, [.int (nI (cnt - 1)), .ref (ra 1), .ref (ra 2), .ref (ra 3), .ref (ra 4), .ref (ra 5)])), ((ra 1), .inl (ct 0, 8, .inl ck1_5)), ((ra 2), .inl (ct 0, 8, .inl cp1_7)), ((ra 3), .inl (ct 0, 8, .inl ca1_7)), ((ra 4), .inl (ct 0, 8, .inl cs1_5)), ((ra 5), .inl (ct 0, 8, .inl cg1_5))] H := hP
            have hD : va_D A [((ra 0), .inr (3, [.int (nI (cnt - 1)), .ref (ra 1), .ref (ra 2), .ref (ra 3), .ref (ra 4), .ref (ra 5)])), ((ra 1), .inl (ct 0, 8, .inl ck1_5)), ((ra 2), .inl (ct 0, 8, .inl cp1_7)), ((ra 3), .inl (ct 0, 8, .inl ca1_7)), ((ra 4), .inl (ct 0, 8, .inl cs1_5)), ((ra 5), .inl (ct 0, 8, .inl cg1_5))] := hD
            refine lv_goto (tgt := 141) hx hb d_Row_meet_114 (by decide) ?_
            refine lv_iconst (v := 1) hx hb d_Row_meet_141 (by decide) ?_
            exact rW_i hx hb hr hlk hAe hS hP hD (Nat.le_of_ble_eq_true rfl) (Nat.le_of_ble_eq_true rfl) d_Row_meet_142 ⟨ck1_5, cp1_7, ca1_7, cs1_5, cg1_5, cnt - 1, 1, rfl, rfl, by have hg9 : mt_gone (fR ck cp cs cg ca) k = k := (by unfold mt_gone; rw [fR0, fR0, fR3, fR3]; first | rw [if_neg (fun z => h_92 (Int32.toInt_inj.mp z)), if_neg (fun z => h_103 (Int32.toInt_inj.mp (show (ck k).toInt = (2 : Int32).toInt from z)))] | rw [if_neg (fun z => h_92 (Int32.toInt_inj.mp z)), if_pos (show (ck k).toInt = (2 : Int32).toInt from congrArg Int32.toInt h_103)] | rw [if_pos (congrArg Int32.toInt h_92), if_neg (fun z => absurd (Int32.lt_iff_toInt_lt.mpr z) (Int32.not_lt.mpr h_130))] | rw [if_pos (congrArg Int32.toInt h_92), if_pos (Int32.lt_iff_toInt_lt.mp (Int32.not_le.mp h_130))]); rw [mt_c3 (fun z => z.elim z62 z71)]; exact ⟨rfl, by show 1 + k = k + 1; omega, fun a j ha hj => by first | exact (hq_111 a j ha hj).trans ((rem_cg hG hn8 a j ha hj).trans (by have z := lef_rem (fR ck cp cs cg ca) k a j ha; rw [hg9] at z; exact z)) | exact (hq_138 a j ha hj).trans ((rem_cg hG hn8 a j ha hj).trans (by have z := lef_rem (fR ck cp cs cg ca) k a j ha; rw [hg9] at z; exact z))⟩⟩
      · have z71 : (fR ck cp cs cg ca) 0 (k + 1) = 0 := by rw [fR0, h_71]; rfl
        refine lv_aload_n hx hb d_Row_meet_74 rfl (lv_at hl 2 rfl) ?_
        refine lv_iload_n hx hb d_Row_meet_75 rfl (lv_at hl 3 rfl) ?_
        refine cWV (As := [.int (nI k)]) (rest := []) (q9 := 0) (ci := 3) K_Row_goThroughOther x_765 hx hb hml hown hts hE hV hS (c_Row_goThroughOther_1 l D ct st ra cnt ck cp1_2 ca1_2 cs cg k (by omega) (h_62) (by rw [show (cs k).toInt = (fR ck cp cs cg ca) 2 (k) from fR2 _ _ _ _ _ _ |>.symm]; exact ⟨p2.1, p2.2⟩) (by rw [show (cg k).toInt = (fR ck cp cs cg ca) 3 (k) from fR3 _ _ _ _ _ _ |>.symm]; exact ⟨p3.1, p3.2⟩) (by rw [show (cs (k + 1)).toInt = (fR ck cp cs cg ca) 2 (k + 1) from fR2 _ _ _ _ _ _ |>.symm]; exact ⟨q2.1, q2.2⟩) (by rw [show (cg (k + 1)).toInt = (fR ck cp cs cg ca) 3 (k + 1) from fR3 _ _ _ _ _ _ |>.symm]; exact ⟨q3.1, q3.2⟩) _) hP hD hA [0, 1, 2, 3, 4, 5] [] (wr := []) rfl rfl (by decide) (by decide) (by decide) rfl hP rfl rfl hl.1 rfl (Nat.le_of_ble_eq_true rfl) d_Row_meet_76 (Nat.le_of_ble_eq_true rfl) (Nat.le_of_ble_eq_true rfl) ⟨Nat.le_of_ble_eq_true rfl, Nat.le_of_ble_eq_true rfl⟩ (fun v W1 H locs hpost hP hD hS => ?_)
        obtain ⟨ck1_6, cp1_8, ca1_8, cs1_6, cg1_6, rfl, rfl, hq_76⟩ := hpost
        have hP : va_P D classes [((ra 0), .inr (3, [.int (nI cnt), .ref (ra 1), .ref (ra 2), .ref (ra 3), .ref (ra 4), .ref (ra 5)])), ((ra 1), .inl (ct 0, 8, .inl ck1_6)), ((ra 2), .inl (ct 0, 8, .inl cp1_8)), ((ra 3), .inl (ct 0, 8, .inl ca1_8)), ((ra 4), .inl (ct 0, 8, .inl cs1_6)), ((ra 5), .inl (ct 0, 8, .inl cg1_6))] H := hP
        have hD : va_D A [((ra 0), .inr (3, [.int (nI cnt), .ref (ra 1), .ref (ra 2), .ref (ra 3), .ref (ra 4), .ref (ra 5)])), ((ra 1), .inl (ct 0, 8, .inl ck1_6)), ((ra 2), .inl (ct 0, 8, .inl cp1_8)), ((ra 3), .inl (ct 0, 8, .inl ca1_8)), ((ra 4), .inl (ct 0, 8, .inl cs1_6)), ((ra 5), .inl (ct 0, 8, .inl cg1_6))] := hD
        exact rW_i hx hb hr hlk hAe hS hP hD (Nat.le_of_ble_eq_true rfl) (Nat.le_of_ble_eq_true rfl) d_Row_meet_79 ⟨ck1_6, cp1_8, ca1_8, cs1_6, cg1_6, cnt, 2, rfl, rfl, by rw [mt_c2 (fun z => by first | exact z47 z.2 | exact z38 z.1) (by first | exact Or.inl z62 | exact Or.inr z71)]; exact ⟨rfl, by show 2 + k = k + 1 + 1; omega, fun a j ha hj => (hq_76 a j ha (by omega)).trans ((swp_cg (psd_cg hG (by omega) (by omega)) (by omega) a j ha (by omega)).trans (pas_eq1 z62 z71 a j ha))⟩⟩
  · have z38 : (fR ck cp cs cg ca) 0 (k) = 0 := by rw [fR0, h_38]; rfl
    refine lv_aload_n hx hb d_Row_meet_41 rfl (lv_at hl 2 rfl) ?_
    refine q_get 0 1 i_Row rfl hx hb hts hown hE hP rfl (by decide) x_155 rfl d_Row_meet_42 ?_
    refine lv_iload_n hx hb d_Row_meet_45 rfl (lv_at hl 1 rfl) ?_
    refine q_iald (k := k + 1) 1 hx hb hE hP rfl rfl (by omega) (by decide) d_Row_meet_46 ?_
    refine lv_if_ne (tgt := 56) hx hb d_Row_meet_47 (by decide) (fun h_47 => ?_) (fun h_47 => ?_)
    · have z47 : ¬ (fR ck cp cs cg ca) 0 (k + 1) = 0 := by rw [fR0]; exact fun z => h_47 (Int32.toInt_inj.mp z)
      refine lv_aload_n hx hb d_Row_meet_56 rfl (lv_at hl 2 rfl) ?_
      refine q_get 0 1 i_Row rfl hx hb hts hown hE hP rfl (by decide) x_155 rfl d_Row_meet_57 ?_
      refine lv_iload_n hx hb d_Row_meet_60 rfl (lv_at hl 3 rfl) ?_
      refine q_iald (k := k) 1 hx hb hE hP rfl rfl (by omega) (by decide) d_Row_meet_61 ?_
      refine lv_if_eq (tgt := 74) hx hb d_Row_meet_62 (by decide) (fun h_62 => ?_) (fun h_62 => ?_)
      · have z62 : (fR ck cp cs cg ca) 0 k = 0 := by rw [fR0, h_62]; rfl
        refine lv_aload_n hx hb d_Row_meet_74 rfl (lv_at hl 2 rfl) ?_
        refine lv_iload_n hx hb d_Row_meet_75 rfl (lv_at hl 3 rfl) ?_
        refine cWV (As := [.int (nI k)]) (rest := []) (q9 := 0) (ci := 3) K_Row_goThroughOther x_765 hx hb hml hown hts hE hV hS (c_Row_goThroughOther_0 l D ct st ra cnt ck cp1_2 ca1_2 cs cg k (by omega) (h_62) (by rw [show (cs k).toInt = (fR ck cp cs cg ca) 2 (k) from fR2 _ _ _ _ _ _ |>.symm]; exact ⟨p2.1, p2.2⟩) (by rw [show (cg k).toInt = (fR ck cp cs cg ca) 3 (k) from fR3 _ _ _ _ _ _ |>.symm]; exact ⟨p3.1, p3.2⟩) (by rw [show (cs (k + 1)).toInt = (fR ck cp cs cg ca) 2 (k + 1) from fR2 _ _ _ _ _ _ |>.symm]; exact ⟨q2.1, q2.2⟩) (by rw [show (cg (k + 1)).toInt = (fR ck cp cs cg ca) 3 (k + 1) from fR3 _ _ _ _ _ _ |>.symm]; exact ⟨q3.1, q3.2⟩) _) hP hD hA [0, 1, 2, 3, 4, 5] [] (wr := []) rfl rfl (by decide) (by decide) (by decide) rfl hP rfl rfl hl.1 rfl (Nat.le_of_ble_eq_true rfl) d_Row_meet_76 (Nat.le_of_ble_eq_true rfl) (Nat.le_of_ble_eq_true rfl) ⟨Nat.le_of_ble_eq_true rfl, Nat.le_of_ble_eq_true rfl⟩ (fun v W1 H locs hpost hP hD hS => ?_)
        obtain ⟨ck1_7, cp1_9, ca1_9, cs1_7, cg1_7, rfl, rfl, hq_76⟩ := hpost
        have hP : va_P D classes [((ra 0), .inr (3, [.int (nI cnt), .ref (ra 1), .ref (ra 2), .ref (ra 3), .ref (ra 4), .ref (ra 5)])), ((ra 1), .inl (ct 0, 8, .inl ck1_7)), ((ra 2), .inl (ct 0, 8, .inl cp1_9)), ((ra 3), .inl (ct 0, 8, .inl ca1_9)), ((ra 4), .inl (ct 0, 8, .inl cs1_7)), ((ra 5), .inl (ct 0, 8, .inl cg1_7))] H := hP
        have hD : va_D A [((ra 0), .inr (3, [.int (nI cnt), .ref (ra 1), .ref (ra 2), .ref (ra 3), .ref (ra 4), .ref (ra 5)])), ((ra 1), .inl (ct 0, 8, .inl ck1_7)), ((ra 2), .inl (ct 0, 8, .inl cp1_9)), ((ra 3), .inl (ct 0, 8, .inl ca1_9)), ((ra 4), .inl (ct 0, 8, .inl cs1_7)), ((ra 5), .inl (ct 0, 8, .inl cg1_7))] := hD
        exact rW_i hx hb hr hlk hAe hS hP hD (Nat.le_of_ble_eq_true rfl) (Nat.le_of_ble_eq_true rfl) d_Row_meet_79 ⟨ck1_7, cp1_9, ca1_9, cs1_7, cg1_7, cnt, 2, rfl, rfl, by rw [mt_c2 (fun z => by first | exact z47 z.2 | exact z38 z.1) (by first | exact Or.inl z62 | exact Or.inr z71)]; exact ⟨rfl, by show 2 + k = k + 1 + 1; omega, fun a j ha hj => (hq_76 a j ha (by omega)).trans ((swp_cg (psd_cg hG (by omega) (by omega)) (by omega) a j ha (by omega)).trans (pas_eq0 z62 a j ha))⟩⟩
      · have z62 : ¬ (fR ck cp cs cg ca) 0 k = 0 := by rw [fR0]; exact fun z => h_62 (Int32.toInt_inj.mp z)
        refine lv_aload_n hx hb d_Row_meet_65 rfl (lv_at hl 2 rfl) ?_
        refine q_get 0 1 i_Row rfl hx hb hts hown hE hP rfl (by decide) x_155 rfl d_Row_meet_66 ?_
        refine lv_iload_n hx hb d_Row_meet_69 rfl (lv_at hl 1 rfl) ?_
        refine q_iald (k := k + 1) 1 hx hb hE hP rfl rfl (by omega) (by decide) d_Row_meet_70 ?_
        refine lv_if_ne (tgt := 80) hx hb d_Row_meet_71 (by decide) (fun h_71 => ?_) (fun h_71 => ?_)
        · have z71 : ¬ (fR ck cp cs cg ca) 0 (k + 1) = 0 := by rw [fR0]; exact fun z => h_71 (Int32.toInt_inj.mp z)
          refine lv_aload_n hx hb d_Row_meet_80 rfl (lv_at hl 2 rfl) ?_
          refine q_get 0 1 i_Row rfl hx hb hts hown hE hP rfl (by decide) x_155 rfl d_Row_meet_81 ?_
          refine lv_iload_n hx hb d_Row_meet_84 rfl (lv_at hl 3 rfl) ?_
          refine q_iald (k := k) 1 hx hb hE hP rfl rfl (by omega) (by decide) d_Row_meet_85 ?_
          refine lv_aload_n hx hb d_Row_meet_86 rfl (lv_at hl 2 rfl) ?_
          refine q_get 0 1 i_Row rfl hx hb hts hown hE hP rfl (by decide) x_155 rfl d_Row_meet_87 ?_
          refine lv_iload_n hx hb d_Row_meet_90 rfl (lv_at hl 1 rfl) ?_
          refine q_iald (k := k + 1) 1 hx hb hE hP rfl rfl (by omega) (by decide) d_Row_meet_91 ?_
          refine lv_icmp_eq (tgt := 117) hx hb d_Row_meet_92 (by decide) (fun h_92 => ?_) (fun h_92 => ?_)
          · refine lv_aload_n hx hb d_Row_meet_117 rfl (lv_at hl 2 rfl) ?_
            refine lv_aload_n hx hb d_Row_meet_118 rfl (lv_at hl 2 rfl) ?_
            refine q_get 0 5 i_Row rfl hx hb hts hown hE hP rfl (by decide) x_159 rfl d_Row_meet_119 ?_
            refine lv_iload_n hx hb d_Row_meet_122 rfl (lv_at hl 1 rfl) ?_
            refine q_iald (k := k + 1) 5 hx hb hE hP rfl rfl (by omega) (by decide) d_Row_meet_123 ?_
            refine lv_aload_n hx hb d_Row_meet_124 rfl (lv_at hl 2 rfl) ?_
            refine q_get 0 5 i_Row rfl hx hb hts hown hE hP rfl (by decide) x_159 rfl d_Row_meet_125 ?_
            refine lv_iload_n hx hb d_Row_meet_128 rfl (lv_at hl 3 rfl) ?_
            refine q_iald (k := k) 5 hx hb hE hP rfl rfl (by omega) (by decide) d_Row_meet_129 ?_
            refine lv_icmp_le (tgt := 137) hx hb d_Row_meet_130 (by decide) (fun h_130 => ?_) (fun h_130 => ?_)
            · refine lv_iload_n hx hb d_Row_meet_137 rfl (lv_at hl 1 rfl) ?_
              refine cWV (As := [.int (nI (k + 1))]) (rest := []) (q9 := 0) (ci := 3) K_Row_takeOut x_753 hx hb hml hown hts hE hV hS (c_Row_takeOut l D ct st ra cnt ck cp1_2 ca1_2 cs cg (k + 1) (by omega) (by omega) _) hP hD hA [0, 1, 2, 3, 4, 5] [] (wr := []) rfl rfl (by decide) (by decide) (by decide) rfl hP rfl rfl hl.1 rfl (Nat.le_of_ble_eq_true rfl) d_Row_meet_138 (Nat.le_of_ble_eq_true rfl) (Nat.le_of_ble_eq_true rfl) ⟨Nat.le_of_ble_eq_true rfl, Nat.le_of_ble_eq_true rfl⟩ (fun v W1 H locs hpost hP hD hS => ?_)
              obtain ⟨ck1_8, cp1_10, ca1_10, cs1_8, cg1_8, rfl, rfl, hq_138⟩ := hpost
              have hP : va_P D classes [((ra 0), .inr (3, [.int (nI (cnt - 1)), .ref (ra 1), .ref (ra 2), .ref (ra 3), .ref (ra 4), .ref (ra 5)])), ((ra 1), .inl (ct 0, 8, .inl ck1_8)), ((ra 2), .inl (ct 0, 8, .inl cp1_10)), ((ra 3), .inl (ct 0, 8, .inl ca1_10)), ((ra 4), .inl (ct 0, 8, .inl cs1_8)), ((ra 5), .inl (ct 0, 8, .inl cg1_8))] H := hP
              have hD : va_D A [((ra 0), .inr (3, [.int (nI (cnt - 1)), .ref (ra 1), .ref (ra 2), .ref (ra 3), .ref (ra 4), .ref (ra 5)])), ((ra 1), .inl (ct 0, 8, .inl ck1_8)), ((ra 2), .inl (ct 0, 8, .inl cp1_10)), ((ra 3), .inl (ct 0, 8, .inl ca1_10)), ((ra 4), .inl (ct 0, 8, .inl cs1_8)), ((ra 5), .inl (ct 0, 8, .inl cg1_8))] := hD
              refine lv_iconst (v := 1) hx hb d_Row_meet_141 (by decide) ?_
              exact rW_i hx hb hr hlk hAe hS hP hD (Nat.le_of_ble_eq_true rfl) (Nat.le_of_ble_eq_true rfl) d_Row_meet_142 ⟨ck1_8, cp1_10, ca1_10, cs1_8, cg1_8, cnt - 1, 1, rfl, rfl, by have hg9 : mt_gone (fR ck cp cs cg ca) k = k + 1 := (by unfold mt_gone; rw [fR0, fR0, fR3, fR3]; first | rw [if_neg (fun z => h_92 (Int32.toInt_inj.mp z)), if_neg (fun z => h_103 (Int32.toInt_inj.mp (show (ck k).toInt = (2 : Int32).toInt from z)))] | rw [if_neg (fun z => h_92 (Int32.toInt_inj.mp z)), if_pos (show (ck k).toInt = (2 : Int32).toInt from congrArg Int32.toInt h_103)] | rw [if_pos (congrArg Int32.toInt h_92), if_neg (fun z => absurd (Int32.lt_iff_toInt_lt.mpr z) (Int32.not_lt.mpr h_130))] | rw [if_pos (congrArg Int32.toInt h_92), if_pos (Int32.lt_iff_toInt_lt.mp (Int32.not_le.mp h_130))]); rw [mt_c3 (fun z => z.elim z62 z71)]; exact ⟨rfl, by show 1 + k = k + 1; omega, fun a j ha hj => by first | exact (hq_111 a j ha hj).trans ((rem_cg hG hn8 a j ha hj).trans (by have z := lef_rem (fR ck cp cs cg ca) k a j ha; rw [hg9] at z; exact z)) | exact (hq_138 a j ha hj).trans ((rem_cg hG hn8 a j ha hj).trans (by have z := lef_rem (fR ck cp cs cg ca) k a j ha; rw [hg9] at z; exact z))⟩⟩
            · refine lv_iload_n hx hb d_Row_meet_133 rfl (lv_at hl 3 rfl) ?_
              refine lv_goto (tgt := 138) hx hb d_Row_meet_134 (by decide) ?_
              refine cWV (As := [.int (nI k)]) (rest := []) (q9 := 0) (ci := 3) K_Row_takeOut x_753 hx hb hml hown hts hE hV hS (c_Row_takeOut l D ct st ra cnt ck cp1_2 ca1_2 cs cg k (by omega) (by omega) _) hP hD hA [0, 1, 2, 3, 4, 5] [] (wr := []) rfl rfl (by decide) (by decide) (by decide) rfl hP rfl rfl hl.1 rfl (Nat.le_of_ble_eq_true rfl) d_Row_meet_138 (Nat.le_of_ble_eq_true rfl) (Nat.le_of_ble_eq_true rfl) ⟨Nat.le_of_ble_eq_true rfl, Nat.le_of_ble_eq_true rfl⟩ (fun v W1 H locs hpost hP hD hS => ?_)
              obtain ⟨ck1_9, cp1_11, ca1_11, cs1_9, cg1_9, rfl, rfl, hq_138⟩ := hpost
              have hP : va_P D classes [((ra 0), .inr (3, [.int (nI (cnt - 1)), .ref (ra 1), .ref (ra 2), .ref (ra 3), .ref (ra 4), .ref (ra 5)])), ((ra 1), .inl (ct 0, 8, .inl ck1_9)), ((ra 2), .inl (ct 0, 8, .inl cp1_11)), ((ra 3), .inl (ct 0, 8, .inl ca1_11)), ((ra 4), .inl (ct 0, 8, .inl cs1_9)), ((ra 5), .inl (ct 0, 8, .inl cg1_9))] H := hP
              have hD : va_D A [((ra 0), .inr (3, [.int (nI (cnt - 1)), .ref (ra 1), .ref (ra 2), .ref (ra 3), .ref (ra 4), .ref (ra 5)])), ((ra 1), .inl (ct 0, 8, .inl ck1_9)), ((ra 2), .inl (ct 0, 8, .inl cp1_11)), ((ra 3), .inl (ct 0, 8, .inl ca1_11)), ((ra 4), .inl (ct 0, 8, .inl cs1_9)), ((ra 5), .inl (ct 0, 8, .inl cg1_9))] := hD
              refine lv_iconst (v := 1) hx hb d_Row_meet_141 (by decide) ?_
              exact rW_i hx hb hr hlk hAe hS hP hD (Nat.le_of_ble_eq_true rfl) (Nat.le_of_ble_eq_true rfl) d_Row_meet_142 ⟨ck1_9, cp1_11, ca1_11, cs1_9, cg1_9, cnt - 1, 1, rfl, rfl, by have hg9 : mt_gone (fR ck cp cs cg ca) k = k := (by unfold mt_gone; rw [fR0, fR0, fR3, fR3]; first | rw [if_neg (fun z => h_92 (Int32.toInt_inj.mp z)), if_neg (fun z => h_103 (Int32.toInt_inj.mp (show (ck k).toInt = (2 : Int32).toInt from z)))] | rw [if_neg (fun z => h_92 (Int32.toInt_inj.mp z)), if_pos (show (ck k).toInt = (2 : Int32).toInt from congrArg Int32.toInt h_103)] | rw [if_pos (congrArg Int32.toInt h_92), if_neg (fun z => absurd (Int32.lt_iff_toInt_lt.mpr z) (Int32.not_lt.mpr h_130))] | rw [if_pos (congrArg Int32.toInt h_92), if_pos (Int32.lt_iff_toInt_lt.mp (Int32.not_le.mp h_130))]); rw [mt_c3 (fun z => z.elim z62 z71)]; exact ⟨rfl, by show 1 + k = k + 1; omega, fun a j ha hj => by first | exact (hq_111 a j ha hj).trans ((rem_cg hG hn8 a j ha hj).trans (by have z := lef_rem (fR ck cp cs cg ca) k a j ha; rw [hg9] at z; exact z)) | exact (hq_138 a j ha hj).trans ((rem_cg hG hn8 a j ha hj).trans (by have z := lef_rem (fR ck cp cs cg ca) k a j ha; rw [hg9] at z; exact z))⟩⟩
          · refine lv_aload_n hx hb d_Row_meet_95 rfl (lv_at hl 2 rfl) ?_
            refine lv_aload_n hx hb d_Row_meet_96 rfl (lv_at hl 2 rfl) ?_
            refine q_get 0 1 i_Row rfl hx hb hts hown hE hP rfl (by decide) x_155 rfl d_Row_meet_97 ?_
            refine lv_iload_n hx hb d_Row_meet_100 rfl (lv_at hl 3 rfl) ?_
            refine q_iald (k := k) 1 hx hb hE hP rfl rfl (by omega) (by decide) d_Row_meet_101 ?_
            refine lv_iconst (v := 2) hx hb d_Row_meet_102 (by decide) ?_
            refine lv_icmp_ne (tgt := 110) hx hb d_Row_meet_103 (by decide) (fun h_103 => ?_) (fun h_103 => ?_)
            · refine lv_iload_n hx hb d_Row_meet_110 rfl (lv_at hl 1 rfl) ?_
              refine cWV (As := [.int (nI (k + 1))]) (rest := []) (q9 := 0) (ci := 3) K_Row_takeOut x_753 hx hb hml hown hts hE hV hS (c_Row_takeOut l D ct st ra cnt ck cp1_2 ca1_2 cs cg (k + 1) (by omega) (by omega) _) hP hD hA [0, 1, 2, 3, 4, 5] [] (wr := []) rfl rfl (by decide) (by decide) (by decide) rfl hP rfl rfl hl.1 rfl (Nat.le_of_ble_eq_true rfl) d_Row_meet_111 (Nat.le_of_ble_eq_true rfl) (Nat.le_of_ble_eq_true rfl) ⟨Nat.le_of_ble_eq_true rfl, Nat.le_of_ble_eq_true rfl⟩ (fun v W1 H locs hpost hP hD hS => ?_)
              obtain ⟨ck1_10, cp1_12, ca1_12, cs1_10, cg1_10, rfl, rfl, hq_111⟩ := hpost
              have hP : va_P D classes [((ra 0), .inr (3, [.int (nI (cnt - 1)), .ref (ra 1), .ref (ra 2), .ref (ra 3), .ref (ra 4), .ref (ra 5)])), ((ra 1), .inl (ct 0, 8, .inl ck1_10)), ((ra 2), .inl (ct 0, 8, .inl cp1_12)), ((ra 3), .inl (ct 0, 8, .inl ca1_12)), ((ra 4), .inl (ct 0, 8, .inl cs1_10)), ((ra 5), .inl (ct 0, 8, .inl cg1_10))] H := hP
              have hD : va_D A [((ra 0), .inr (3, [.int (nI (cnt - 1)), .ref (ra 1), .ref (ra 2), .ref (ra 3), .ref (ra 4), .ref (ra 5)])), ((ra 1), .inl (ct 0, 8, .inl ck1_10)), ((ra 2), .inl (ct 0, 8, .inl cp1_12)), ((ra 3), .inl (ct 0, 8, .inl ca1_12)), ((ra 4), .inl (ct 0, 8, .inl cs1_10)), ((ra 5), .inl (ct 0, 8, .inl cg1_10))] := hD
              refine lv_goto (tgt := 141) hx hb d_Row_meet_114 (by decide) ?_
              refine lv_iconst (v := 1) hx hb d_Row_meet_141 (by decide) ?_
              exact rW_i hx hb hr hlk hAe hS hP hD (Nat.le_of_ble_eq_true rfl) (Nat.le_of_ble_eq_true rfl) d_Row_meet_142 ⟨ck1_10, cp1_12, ca1_12, cs1_10, cg1_10, cnt - 1, 1, rfl, rfl, by have hg9 : mt_gone (fR ck cp cs cg ca) k = k + 1 := (by unfold mt_gone; rw [fR0, fR0, fR3, fR3]; first | rw [if_neg (fun z => h_92 (Int32.toInt_inj.mp z)), if_neg (fun z => h_103 (Int32.toInt_inj.mp (show (ck k).toInt = (2 : Int32).toInt from z)))] | rw [if_neg (fun z => h_92 (Int32.toInt_inj.mp z)), if_pos (show (ck k).toInt = (2 : Int32).toInt from congrArg Int32.toInt h_103)] | rw [if_pos (congrArg Int32.toInt h_92), if_neg (fun z => absurd (Int32.lt_iff_toInt_lt.mpr z) (Int32.not_lt.mpr h_130))] | rw [if_pos (congrArg Int32.toInt h_92), if_pos (Int32.lt_iff_toInt_lt.mp (Int32.not_le.mp h_130))]); rw [mt_c3 (fun z => z.elim z62 z71)]; exact ⟨rfl, by show 1 + k = k + 1; omega, fun a j ha hj => by first | exact (hq_111 a j ha hj).trans ((rem_cg hG hn8 a j ha hj).trans (by have z := lef_rem (fR ck cp cs cg ca) k a j ha; rw [hg9] at z; exact z)) | exact (hq_138 a j ha hj).trans ((rem_cg hG hn8 a j ha hj).trans (by have z := lef_rem (fR ck cp cs cg ca) k a j ha; rw [hg9] at z; exact z))⟩⟩
            · refine lv_iload_n hx hb d_Row_meet_106 rfl (lv_at hl 3 rfl) ?_
              refine lv_goto (tgt := 111) hx hb d_Row_meet_107 (by decide) ?_
              refine cWV (As := [.int (nI k)]) (rest := []) (q9 := 0) (ci := 3) K_Row_takeOut x_753 hx hb hml hown hts hE hV hS (c_Row_takeOut l D ct st ra cnt ck cp1_2 ca1_2 cs cg k (by omega) (by omega) _) hP hD hA [0, 1, 2, 3, 4, 5] [] (wr := []) rfl rfl (by decide) (by decide) (by decide) rfl hP rfl rfl hl.1 rfl (Nat.le_of_ble_eq_true rfl) d_Row_meet_111 (Nat.le_of_ble_eq_true rfl) (Nat.le_of_ble_eq_true rfl) ⟨Nat.le_of_ble_eq_true rfl, Nat.le_of_ble_eq_true rfl⟩ (fun v W1 H locs hpost hP hD hS => ?_)
              obtain ⟨ck1_11, cp1_13, ca1_13, cs1_11, cg1_11, rfl, rfl, hq_111⟩ := hpost
              have hP : va_P D classes [((ra 0), .inr (3, [.int (nI (cnt - 1)), .ref (ra 1), .ref (ra 2), .ref (ra 3), .ref (ra 4), .ref (ra 5)])), ((ra 1), .inl (ct 0, 8, .inl ck1_11)), ((ra 2), .inl (ct 0, 8, .inl cp1_13)), ((ra 3), .inl (ct 0, 8, .inl ca1_13)), ((ra 4), .inl (ct 0, 8, .inl cs1_11)), ((ra 5), .inl (ct 0, 8, .inl cg1_11))] H := hP
              have hD : va_D A [((ra 0), .inr (3, [.int (nI (cnt - 1)), .ref (ra 1), .ref (ra 2), .ref (ra 3), .ref (ra 4), .ref (ra 5)])), ((ra 1), .inl (ct 0, 8, .inl ck1_11)), ((ra 2), .inl (ct 0, 8, .inl cp1_13)), ((ra 3), .inl (ct 0, 8, .inl ca1_13)), ((ra 4), .inl (ct 0, 8, .inl cs1_11)), ((ra 5), .inl (ct 0, 8, .inl cg1_11))] := hD
              refine lv_goto (tgt := 141) hx hb d_Row_meet_114 (by decide) ?_
              refine lv_iconst (v := 1) hx hb d_Row_meet_141 (by decide) ?_
              exact rW_i hx hb hr hlk hAe hS hP hD (Nat.le_of_ble_eq_true rfl) (Nat.le_of_ble_eq_true rfl) d_Row_meet_142 ⟨ck1_11, cp1_13, ca1_13, cs1_11, cg1_11, cnt - 1, 1, rfl, rfl, by have hg9 : mt_gone (fR ck cp cs cg ca) k = k := (by unfold mt_gone; rw [fR0, fR0, fR3, fR3]; first | rw [if_neg (fun z => h_92 (Int32.toInt_inj.mp z)), if_neg (fun z => h_103 (Int32.toInt_inj.mp (show (ck k).toInt = (2 : Int32).toInt from z)))] | rw [if_neg (fun z => h_92 (Int32.toInt_inj.mp z)), if_pos (show (ck k).toInt = (2 : Int32).toInt from congrArg Int32.toInt h_103)] | rw [if_pos (congrArg Int32.toInt h_92), if_neg (fun z => absurd (Int32.lt_iff_toInt_lt.mpr z) (Int32.not_lt.mpr h_130))] | rw [if_pos (congrArg Int32.toInt h_92), if_pos (Int32.lt_iff_toInt_lt.mp (Int32.not_le.mp h_130))]); rw [mt_c3 (fun z => z.elim z62 z71)]; exact ⟨rfl, by show 1 + k = k + 1; omega, fun a j ha hj => by first | exact (hq_111 a j ha hj).trans ((rem_cg hG hn8 a j ha hj).trans (by have z := lef_rem (fR ck cp cs cg ca) k a j ha; rw [hg9] at z; exact z)) | exact (hq_138 a j ha hj).trans ((rem_cg hG hn8 a j ha hj).trans (by have z := lef_rem (fR ck cp cs cg ca) k a j ha; rw [hg9] at z; exact z))⟩⟩
        · have z71 : (fR ck cp cs cg ca) 0 (k + 1) = 0 := by rw [fR0, h_71]; rfl
          refine lv_aload_n hx hb d_Row_meet_74 rfl (lv_at hl 2 rfl) ?_
          refine lv_iload_n hx hb d_Row_meet_75 rfl (lv_at hl 3 rfl) ?_
          refine cWV (As := [.int (nI k)]) (rest := []) (q9 := 0) (ci := 3) K_Row_goThroughOther x_765 hx hb hml hown hts hE hV hS (c_Row_goThroughOther_1 l D ct st ra cnt ck cp1_2 ca1_2 cs cg k (by omega) (h_62) (by rw [show (cs k).toInt = (fR ck cp cs cg ca) 2 (k) from fR2 _ _ _ _ _ _ |>.symm]; exact ⟨p2.1, p2.2⟩) (by rw [show (cg k).toInt = (fR ck cp cs cg ca) 3 (k) from fR3 _ _ _ _ _ _ |>.symm]; exact ⟨p3.1, p3.2⟩) (by rw [show (cs (k + 1)).toInt = (fR ck cp cs cg ca) 2 (k + 1) from fR2 _ _ _ _ _ _ |>.symm]; exact ⟨q2.1, q2.2⟩) (by rw [show (cg (k + 1)).toInt = (fR ck cp cs cg ca) 3 (k + 1) from fR3 _ _ _ _ _ _ |>.symm]; exact ⟨q3.1, q3.2⟩) _) hP hD hA [0, 1, 2, 3, 4, 5] [] (wr := []) rfl rfl (by decide) (by decide) (by decide) rfl hP rfl rfl hl.1 rfl (Nat.le_of_ble_eq_true rfl) d_Row_meet_76 (Nat.le_of_ble_eq_true rfl) (Nat.le_of_ble_eq_true rfl) ⟨Nat.le_of_ble_eq_true rfl, Nat.le_of_ble_eq_true rfl⟩ (fun v W1 H locs hpost hP hD hS => ?_)
          obtain ⟨ck1_12, cp1_14, ca1_14, cs1_12, cg1_12, rfl, rfl, hq_76⟩ := hpost
          have hP : va_P D classes [((ra 0), .inr (3, [.int (nI cnt), .ref (ra 1), .ref (ra 2), .ref (ra 3), .ref (ra 4), .ref (ra 5)])), ((ra 1), .inl (ct 0, 8, .inl ck1_12)), ((ra 2), .inl (ct 0, 8, .inl cp1_14)), ((ra 3), .inl (ct 0, 8, .inl ca1_14)), ((ra 4), .inl (ct 0, 8, .inl cs1_12)), ((ra 5), .inl (ct 0, 8, .inl cg1_12))] H := hP
          have hD : va_D A [((ra 0), .inr (3, [.int (nI cnt), .ref (ra 1), .ref (ra 2), .ref (ra 3), .ref (ra 4), .ref (ra 5)])), ((ra 1), .inl (ct 0, 8, .inl ck1_12)), ((ra 2), .inl (ct 0, 8, .inl cp1_14)), ((ra 3), .inl (ct 0, 8, .inl ca1_14)), ((ra 4), .inl (ct 0, 8, .inl cs1_12)), ((ra 5), .inl (ct 0, 8, .inl cg1_12))] := hD
          exact rW_i hx hb hr hlk hAe hS hP hD (Nat.le_of_ble_eq_true rfl) (Nat.le_of_ble_eq_true rfl) d_Row_meet_79 ⟨ck1_12, cp1_14, ca1_14, cs1_12, cg1_12, cnt, 2, rfl, rfl, by rw [mt_c2 (fun z => by first | exact z47 z.2 | exact z38 z.1) (by first | exact Or.inl z62 | exact Or.inr z71)]; exact ⟨rfl, by show 2 + k = k + 1 + 1; omega, fun a j ha hj => (hq_76 a j ha (by omega)).trans ((swp_cg (psd_cg hG (by omega) (by omega)) (by omega) a j ha (by omega)).trans (pas_eq1 z62 z71 a j ha))⟩⟩
    · have z47 : (fR ck cp cs cg ca) 0 (k + 1) = 0 := by rw [fR0, h_47]; rfl
      refine lv_aload_n hx hb d_Row_meet_50 rfl (lv_at hl 2 rfl) ?_
      refine lv_iload_n hx hb d_Row_meet_51 rfl (lv_at hl 3 rfl) ?_
      refine cWV (As := [.int (nI k)]) (rest := []) (q9 := 0) (ci := 3) K_Row_meetShocks x_745 hx hb hml hown hts hE hV hS (c_Row_meetShocks l D ct st ra cnt ck cp1_2 ca1_2 cs cg k (hn8) (hk) (by rw [show (cs k).toInt = (fR ck cp cs cg ca) 2 (k) from fR2 _ _ _ _ _ _ |>.symm]; exact ⟨p2.1, p2.2⟩) (by rw [show (cg k).toInt = (fR ck cp cs cg ca) 3 (k) from fR3 _ _ _ _ _ _ |>.symm]; exact ⟨p3.1, p3.2⟩) (by rw [show (cs (k + 1)).toInt = (fR ck cp cs cg ca) 2 (k + 1) from fR2 _ _ _ _ _ _ |>.symm]; exact ⟨q2.1, q2.2⟩) (by rw [show (cg (k + 1)).toInt = (fR ck cp cs cg ca) 3 (k + 1) from fR3 _ _ _ _ _ _ |>.symm]; exact ⟨q3.1, q3.2⟩) _) hP hD hA [0, 1, 2, 3, 4, 5] [] (wr := []) rfl rfl (by decide) (by decide) (by decide) rfl hP rfl rfl hl.1 rfl (Nat.le_of_ble_eq_true rfl) d_Row_meet_52 (Nat.le_of_ble_eq_true rfl) (Nat.le_of_ble_eq_true rfl) ⟨Nat.le_of_ble_eq_true rfl, Nat.le_of_ble_eq_true rfl⟩ (fun v W1 H locs hpost hP hD hS => ?_)
      obtain ⟨ck1_13, cp1_15, ca1_15, cs1_13, cg1_13, c9_1, rv9_1, rfl, rfl, hq_52⟩ := hpost
      have hP : va_P D classes [((ra 0), .inr (3, [.int (nI c9_1), .ref (ra 1), .ref (ra 2), .ref (ra 3), .ref (ra 4), .ref (ra 5)])), ((ra 1), .inl (ct 0, 8, .inl ck1_13)), ((ra 2), .inl (ct 0, 8, .inl cp1_15)), ((ra 3), .inl (ct 0, 8, .inl ca1_15)), ((ra 4), .inl (ct 0, 8, .inl cs1_13)), ((ra 5), .inl (ct 0, 8, .inl cg1_13))] H := hP
      have hD : va_D A [((ra 0), .inr (3, [.int (nI c9_1), .ref (ra 1), .ref (ra 2), .ref (ra 3), .ref (ra 4), .ref (ra 5)])), ((ra 1), .inl (ct 0, 8, .inl ck1_13)), ((ra 2), .inl (ct 0, 8, .inl cp1_15)), ((ra 3), .inl (ct 0, 8, .inl ca1_15)), ((ra 4), .inl (ct 0, 8, .inl cs1_13)), ((ra 5), .inl (ct 0, 8, .inl cg1_13))] := hD
      exact rW_i hx hb hr hlk hAe hS hP hD (Nat.le_of_ble_eq_true rfl) (Nat.le_of_ble_eq_true rfl) d_Row_meet_55 ⟨ck1_13, cp1_15, ca1_15, cs1_13, cg1_13, c9_1, rv9_1, rfl, rfl, by obtain ⟨m1, m2, m3⟩ := msh_cg hG hk hn8; obtain ⟨t1, t2, t3⟩ := mt_c1 (n := cnt) z38 z47; exact ⟨hq_52.1.trans (m1.trans t1), by rw [hq_52.2.1, m2]; exact t2, fun a j ha hj => (hq_52.2.2 a j ha hj).trans ((m3 a j ha (by rw [← hq_52.1]; exact hj)).trans (t3 a j ha))⟩⟩
