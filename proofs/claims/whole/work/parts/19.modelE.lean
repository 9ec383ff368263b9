theorem tadd {x y : Int64} {K : Int} (hx : -K ≤ x.toInt ∧ x.toInt ≤ K) (hy : -K ≤ y.toInt ∧ y.toInt ≤ K) (hK : K ≤ 1000000000000) : (x + y).toInt = x.toInt + y.toInt := fb_addL (by omega) (by omega)
theorem tsub {x y : Int64} {K : Int} (hx : -K ≤ x.toInt ∧ x.toInt ≤ K) (hy : -K ≤ y.toInt ∧ y.toInt ≤ K) (hK : K ≤ 1000000000000) : (x - y).toInt = x.toInt - y.toInt := fb_subL (by omega) (by omega)
theorem tmul {x y : Int64} (h : -1000000000000 ≤ x.toInt * y.toInt ∧ x.toInt * y.toInt ≤ 1000000000000) : (x * y).toInt = x.toInt * y.toInt := fb_mulL (by omega) (by omega)
theorem sz_abs {x : Int64} (h : -1000000000000 ≤ x.toInt ∧ x.toInt ≤ 1000000000000) : (w_sz x).toInt = r_abs x.toInt := by
  unfold w_sz r_abs
  by_cases z : x < 0
  · rw [if_pos z, if_pos ((lt0 x).mp z), Int64.toInt_neg]
    exact fb_bmodL (by omega) (by omega)
  · rw [if_neg z, if_neg (fun w => z ((lt0 x).mpr w))]
theorem held_hld (x : Int64) : (w_held x).toInt = r_hld x.toInt := by
  unfold w_held r_hld
  have e1 : (900 < x) ↔ (900 < x.toInt) := by rw [Int64.lt_iff_toInt_lt]; exact Iff.rfl
  have e2 : (x < -900) ↔ (x.toInt < -900) := by rw [Int64.lt_iff_toInt_lt]; exact Iff.rfl
  by_cases a : 900 < x
  · rw [if_pos a, if_pos (e1.mp a)]; rfl
  · rw [if_neg a, if_neg (fun z => a (e1.mpr z))]
    by_cases b : x < -900
    · rw [if_pos b, if_pos (e2.mp b)]; rfl
    · rw [if_neg b, if_neg (fun z => b (e2.mpr z))]
/-- what FB says of two neighbours, over the reference's row -/
theorem fb2 {S Bf : Nat → Int64} {n k : Nat} (h : FB n (fS S Bf)) (hk : k < n) : (0 ≤ (S (211 + k)).toInt ∧ (S (211 + k)).toInt ≤ 2) ∧ (0 ≤ (S (219 + k)).toInt ∧ (S (219 + k)).toInt ≤ 100000) ∧ (-900 ≤ (S (227 + k)).toInt ∧ (S (227 + k)).toInt ≤ 900) ∧ (1 ≤ (S (235 + k)).toInt ∧ (S (235 + k)).toInt ≤ 900) := by
  have := h k hk
  rw [fS0, fS1, fS2, fS3] at this
  exact this
theorem wm_val {v t w u : Int64} (h1 : -900 ≤ v.toInt ∧ v.toInt ≤ 900) (h2 : 1 ≤ t.toInt ∧ t.toInt ≤ 900) (h3 : -900 ≤ w.toInt ∧ w.toInt ≤ 900) (h4 : 1 ≤ u.toInt ∧ u.toInt ≤ 900) : ((v * t + w * u) / (t + u)).toInt = (v.toInt * t.toInt + w.toInt * u.toInt).tdiv (t.toInt + u.toInt) := by
  obtain ⟨a1, a2, -⟩ := wmean h1 h2 h3 h4
  have e1 : (t + u).toInt = t.toInt + u.toInt := tadd (K := 900) (by omega) (by omega) (by omega)
  have e2 : (v * t).toInt = v.toInt * t.toInt := tmul (by omega)
  have e3 : (w * u).toInt = w.toInt * u.toInt := tmul (by omega)
  have e4 : (v * t + w * u).toInt = v.toInt * t.toInt + w.toInt * u.toInt := by
    rw [tadd (K := 810000) (by rw [e2]; omega) (by rw [e3]; omega) (by omega), e2, e3]
  rw [div_toInt (by rw [e1]; omega), e4, e1]
theorem div10 {x : Int64} : (x / 10).toInt = x.toInt.tdiv 10 := div_toInt (y := 10) (by decide)
theorem min9 {x : Int64} : (if x ≤ 900 then x else 900).toInt = r_min x.toInt 900 := by
  unfold r_min
  have e : (x ≤ 900) ↔ (x.toInt ≤ 900) := by rw [Int64.le_iff_toInt_le]; exact Iff.rfl
  by_cases a : x ≤ 900
  · rw [if_pos a, if_neg (by have := e.mp a; omega)]
  · rw [if_neg a, if_pos (by have : ¬ x.toInt ≤ 900 := fun z => a (e.mpr z); omega)]; rfl
theorem half {x y : Int64} (hx : 0 ≤ x.toInt ∧ x.toInt ≤ 100000) (hy : 0 ≤ y.toInt ∧ y.toInt ≤ 100000) : (fd (x + y) 2).toInt = (x.toInt + y.toInt) / 2 := by
  rw [fd_toInt (by decide), tadd (K := 100000) (by omega) (by omega) (by omega)]; rfl
theorem nine {x : Int64} (h : 1 ≤ x.toInt ∧ x.toInt ≤ 900) : (9 * x / 10).toInt = 9 * x.toInt / 10 := by
  have e : (9 * x).toInt = 9 * x.toInt := tmul (x := 9) (by show _ ≤ 9 * x.toInt ∧ 9 * x.toInt ≤ _; omega)
  rw [div10, e, Int.tdiv_eq_ediv_of_nonneg (by omega)]
theorem three {x : Int64} (h : 1 ≤ x.toInt ∧ x.toInt ≤ 900) : (3 * x / 2).toInt = 3 * x.toInt / 2 := by
  have e : (3 * x).toInt = 3 * x.toInt := tmul (x := 3) (by show _ ≤ 3 * x.toInt ∧ 3 * x.toInt ≤ _; omega)
  rw [div_toInt (y := 2) (by decide), e, Int.tdiv_eq_ediv_of_nonneg (by omega)]; rfl
theorem eq0 {x : Int64} : x = 0 ↔ x.toInt = 0 := by rw [← Int64.toInt_inj]; exact Iff.rfl
theorem eq1 {x : Int64} : x = 1 ↔ x.toInt = 1 := by rw [← Int64.toInt_inj]; exact Iff.rfl
theorem eq2 {x : Int64} : x = 2 ↔ x.toInt = 2 := by rw [← Int64.toInt_inj]; exact Iff.rfl
theorem le1 {x : Int64} : 1 ≤ x ↔ ¬ x.toInt < 1 := by
  rw [Int64.le_iff_toInt_le]
  show 1 ≤ x.toInt ↔ _
  omega
theorem st_a {F : RF} {x o : Nat} {z y : Int64} (h : z.toInt = F 0 o) (hz : ¬ z = 1) (hy : y.toInt = F 3 x) : y.toInt = mt_st F x o := by
  unfold mt_st
  rw [if_neg (fun w => hz (eq1.mpr (h.trans w))), hy]
theorem st_b {F : RF} {x o : Nat} {z y : Int64} (h : z.toInt = F 0 o) (hz : z = 1) (hy : y.toInt = F 3 x) (hr : 1 ≤ y.toInt ∧ y.toInt ≤ 900) (c : 1 ≤ 9 * y / 10) : (9 * y / 10).toInt = mt_st F x o := by
  unfold mt_st
  rw [if_pos (h.symm.trans (eq1.mp hz)), ← hy, ← nine hr, if_neg (le1.mp c)]
theorem st_c {F : RF} {x o : Nat} {z y : Int64} (h : z.toInt = F 0 o) (hz : z = 1) (hy : y.toInt = F 3 x) (hr : 1 ≤ y.toInt ∧ y.toInt ≤ 900) (c : ¬ 1 ≤ 9 * y / 10) : (1 : Int64).toInt = mt_st F x o := by
  unfold mt_st
  rw [if_pos (h.symm.trans (eq1.mp hz)), ← hy, ← nine hr, if_pos (Classical.byContradiction fun w => c (le1.mpr w))]
  rfl
theorem sp_a {F : RF} {x o : Nat} {z y w : Int64} (h : z.toInt = F 0 o) (hz : z = 1) (hy : y.toInt = F 2 o) (hw : w.toInt = F 2 x) (r1 : -900 ≤ y.toInt ∧ y.toInt ≤ 900) (r2 : -900 ≤ w.toInt ∧ w.toInt ≤ 900) : (w_held (y + w / 10)).toInt = mt_sp F x o := by
  unfold mt_sp
  have := tdiv_bd (a := w.toInt) (b := 10) (K := 90) (by omega) ⟨by omega, by omega⟩
  rw [held_hld, if_pos (h.symm.trans (eq1.mp hz)), tadd (K := 900) (by omega) (by rw [div10]; omega) (by omega), div10, hy, hw]
theorem sp_b {F : RF} {x o : Nat} {z y : Int64} (h : z.toInt = F 0 o) (hz : ¬ z = 1) (hy : y.toInt = F 2 o) (r1 : -900 ≤ y.toInt ∧ y.toInt ≤ 900) : (w_held (2 * y)).toInt = mt_sp F x o := by
  unfold mt_sp
  rw [held_hld, if_neg (fun w => hz (eq1.mpr (h.trans w))), tmul (x := 2) (by show _ ≤ 2 * y.toInt ∧ 2 * y.toInt ≤ _; omega), hy]
  rfl

set_option maxHeartbeats 4000000 in
set_option maxRecDepth 100000 in
theorem c_M_doMeet (l : Launch) (D : va_G) (ct : Nat → ClassId) (st : Nat → Nat) (am : Nat → Nat) (th : Int32) (bu : Int64) (he : Int64) (S : Nat → Int64) (Bf : Nat → Int64) (k : Nat) (h1 : k + 1 < 8) : Met l y_M_doMeet (wsy y_M_doMeet b_M_doMeet 2 (some .boolean)) (k2_rm 0 0) (PcR D ct st [.ref (am 0), .int (nI k)] [((am 0), .inr (8, [.int th, .ref (am 1), .ref (am 2), .ref (am 3), .ref (am 4), .ref (am 5), .long bu, .long he, .ref (am 6), .ref (am 7)])), ((am 1), .inl (ct 1, 334, .inr (.inl S))), ((am 6), .inl (ct 1, 9, .inr (.inl Bf)))]) (k2_QcV (.int (bI (mt_on (fS S Bf) k)))) 0 0 (fun _ => False) := by
  refine enterR (by decide) (Nat.le_of_ble_eq_true rfl) ?_
  intro p e s m args below meth c ls hx hb hr hml hown hts hlk hP hE hV hS hl
  have hl : lv_has ls 2 [(0, .ref (am 0)), (1, .int (nI k))] := hl
  refine lv_aload_n hx hb d_M_doMeet_0 rfl (lv_at hl 0 rfl) ?_
  refine q_get 0 1 i_M rfl hx hb hts hown hE hP rfl (by decide) x_937 rfl d_M_doMeet_1 ?_
  refine lv_sipush (v := 219) hx hb d_M_doMeet_4 (by decide) ?_
  refine lv_iload_n hx hb d_M_doMeet_7 rfl (lv_at hl 1 rfl) ?_
  refine q_iadd (v := nI (219 + k)) hx hb d_M_doMeet_8 (nI_add 219 k) ?_
  refine q_lald (k := 219 + k) 1 hx hb hE hP rfl rfl (by omega) (by decide) d_M_doMeet_9 ?_
  refine lv_aload_n hx hb d_M_doMeet_10 rfl (lv_at hl 0 rfl) ?_
  refine q_get 0 1 i_M rfl hx hb hts hown hE hP rfl (by decide) x_937 rfl d_M_doMeet_11 ?_
  refine lv_sipush (v := 219) hx hb d_M_doMeet_14 (by decide) ?_
  refine lv_iload_n hx hb d_M_doMeet_17 rfl (lv_at hl 1 rfl) ?_
  refine q_iadd (v := nI (219 + k)) hx hb d_M_doMeet_18 (nI_add 219 k) ?_
  refine lv_iconst (v := 1) hx hb d_M_doMeet_19 (by decide) ?_
  refine q_iadd (v := nI ((219 + k) + 1)) hx hb d_M_doMeet_20 (nI_add (219 + k) 1) ?_
  refine q_lald (k := (219 + k) + 1) 1 hx hb hE hP rfl rfl (by omega) (by decide) d_M_doMeet_21 ?_
  refine q_topl (v := S (219 + (k + 1))) (congrArg S (by omega)) ?_
  refine W.lcmp hx hb d_M_doMeet_22 ?_
  refine q_cmp_gt (tgt := 70) hx hb d_M_doMeet_23 (by decide) (fun h_23 => ?_) (fun h_23 => ?_)
  · refine lv_iconst (v := 1) hx hb d_M_doMeet_70 (by decide) ?_
    refine lv_goto (tgt := 75) hx hb d_M_doMeet_71 (by decide) ?_
    exact rR_z hx hb hr hlk d_M_doMeet_75 (bI_1 (by rw [domeet_iff]; first | exact Or.inl h_23 | exact Or.inr ⟨h_49, Int64.not_le.mp h_67⟩ | exact fun z => z.elim h_23 (fun w => h_49 w.1) | exact fun z => z.elim h_23 (fun w => absurd h_67 (Int64.not_le.mpr w.2))))
  · refine lv_aload_n hx hb d_M_doMeet_26 rfl (lv_at hl 0 rfl) ?_
    refine q_get 0 1 i_M rfl hx hb hts hown hE hP rfl (by decide) x_937 rfl d_M_doMeet_27 ?_
    refine lv_sipush (v := 219) hx hb d_M_doMeet_30 (by decide) ?_
    refine lv_iload_n hx hb d_M_doMeet_33 rfl (lv_at hl 1 rfl) ?_
    refine q_iadd (v := nI (219 + k)) hx hb d_M_doMeet_34 (nI_add 219 k) ?_
    refine q_lald (k := 219 + k) 1 hx hb hE hP rfl rfl (by omega) (by decide) d_M_doMeet_35 ?_
    refine lv_aload_n hx hb d_M_doMeet_36 rfl (lv_at hl 0 rfl) ?_
    refine q_get 0 1 i_M rfl hx hb hts hown hE hP rfl (by decide) x_937 rfl d_M_doMeet_37 ?_
    refine lv_sipush (v := 219) hx hb d_M_doMeet_40 (by decide) ?_
    refine lv_iload_n hx hb d_M_doMeet_43 rfl (lv_at hl 1 rfl) ?_
    refine q_iadd (v := nI (219 + k)) hx hb d_M_doMeet_44 (nI_add 219 k) ?_
    refine lv_iconst (v := 1) hx hb d_M_doMeet_45 (by decide) ?_
    refine q_iadd (v := nI ((219 + k) + 1)) hx hb d_M_doMeet_46 (nI_add (219 + k) 1) ?_
    refine q_lald (k := (219 + k) + 1) 1 hx hb hE hP rfl rfl (by omega) (by decide) d_M_doMeet_47 ?_
    refine q_topl (v := S (219 + (k + 1))) (congrArg S (by omega)) ?_
    refine W.lcmp hx hb d_M_doMeet_48 ?_
    refine q_cmp_ne (tgt := 74) hx hb d_M_doMeet_49 (by decide) (fun h_49 => ?_) (fun h_49 => ?_)
    · refine lv_iconst (v := 0) hx hb d_M_doMeet_74 (by decide) ?_
      exact rR_z hx hb hr hlk d_M_doMeet_75 (bI_0 (by rw [domeet_iff]; first | exact Or.inl h_23 | exact Or.inr ⟨h_49, Int64.not_le.mp h_67⟩ | exact fun z => z.elim h_23 (fun w => h_49 w.1) | exact fun z => z.elim h_23 (fun w => absurd h_67 (Int64.not_le.mpr w.2))))
    · refine lv_aload_n hx hb d_M_doMeet_52 rfl (lv_at hl 0 rfl) ?_
      refine q_get 0 8 i_M rfl hx hb hts hown hE hP rfl (by decide) x_944 rfl d_M_doMeet_53 ?_
      refine lv_iload_n hx hb d_M_doMeet_56 rfl (lv_at hl 1 rfl) ?_
      refine q_lald (k := k) 2 hx hb hE hP rfl rfl (by omega) (by decide) d_M_doMeet_57 ?_
      refine lv_aload_n hx hb d_M_doMeet_58 rfl (lv_at hl 0 rfl) ?_
      refine q_get 0 8 i_M rfl hx hb hts hown hE hP rfl (by decide) x_944 rfl d_M_doMeet_59 ?_
      refine lv_iload_n hx hb d_M_doMeet_62 rfl (lv_at hl 1 rfl) ?_
      refine lv_iconst (v := 1) hx hb d_M_doMeet_63 (by decide) ?_
      refine q_iadd (v := nI (k + 1)) hx hb d_M_doMeet_64 (nI_add k 1) ?_
      refine q_lald (k := k + 1) 2 hx hb hE hP rfl rfl (by omega) (by decide) d_M_doMeet_65 ?_
      refine W.lcmp hx hb d_M_doMeet_66 ?_
      refine q_cmp_ge (tgt := 74) hx hb d_M_doMeet_67 (by decide) (fun h_67 => ?_) (fun h_67 => ?_)
      · refine lv_iconst (v := 0) hx hb d_M_doMeet_74 (by decide) ?_
        exact rR_z hx hb hr hlk d_M_doMeet_75 (bI_0 (by rw [domeet_iff]; first | exact Or.inl h_23 | exact Or.inr ⟨h_49, Int64.not_le.mp h_67⟩ | exact fun z => z.elim h_23 (fun w => h_49 w.1) | exact fun z => z.elim h_23 (fun w => absurd h_67 (Int64.not_le.mpr w.2))))
      · refine lv_iconst (v := 1) hx hb d_M_doMeet_70 (by decide) ?_
        refine lv_goto (tgt := 75) hx hb d_M_doMeet_71 (by decide) ?_
        exact rR_z hx hb hr hlk d_M_doMeet_75 (bI_1 (by rw [domeet_iff]; first | exact Or.inl h_23 | exact Or.inr ⟨h_49, Int64.not_le.mp h_67⟩ | exact fun z => z.elim h_23 (fun w => h_49 w.1) | exact fun z => z.elim h_23 (fun w => absurd h_67 (Int64.not_le.mpr w.2))))
set_option maxHeartbeats 4000000 in
set_option maxRecDepth 100000 in
theorem c_M_shocksMeet (l : Launch) (D : va_G) (ct : Nat → ClassId) (st : Nat → Nat) (am : Nat → Nat) (th : Int32) (bu : Int64) (he : Int64) (S : Nat → Int64) (Bf : Nat → Int64) (cnt : Nat) (k : Nat) (pl : Int64) (hcnt : S 210 = lN cnt) (hn8 : cnt ≤ 8) (hk : k + 1 < cnt) (hFB : FB cnt (fS S Bf)) (hss : fS S Bf 0 k = 0 ∧ fS S Bf 0 (k + 1) = 0) (hpl : pl.toInt = mt_pl (fS S Bf) k) (sz : Nat) : Met l y_M_shocksMeet (wsy y_M_shocksMeet b_M_shocksMeet 14 (some .int)) (rmW 2 0 0 58) (PcW D ct st [.ref (am 0), .int (nI k), .long pl] [((am 0), .inr (8, [.int th, .ref (am 1), .ref (am 2), .ref (am 3), .ref (am 4), .ref (am 5), .long bu, .long he, .ref (am 6), .ref (am 7)])), ((am 1), .inl (ct 1, 334, .inr (.inl S))), ((am 6), .inl (ct 1, 9, .inr (.inl Bf)))] sz) (QcW D [((am 0), .inr (8, [.int th, .ref (am 1), .ref (am 2), .ref (am 3), .ref (am 4), .ref (am 5), .long bu, .long he, .ref (am 6), .ref (am 7)])), ((am 1), .inl (ct 1, 334, .inr (.inl S))), ((am 6), .inl (ct 1, 9, .inr (.inl Bf)))] sz (fun v W1 => ∃ (s1 : Nat → Int64) (before1 : Nat → Int64) (rt9 : Nat), v = some (.int (nI rt9)) ∧ W1 = [((am 0), .inr (8, [.int th, .ref (am 1), .ref (am 2), .ref (am 3), .ref (am 4), .ref (am 5), .long bu, .long he, .ref (am 6), .ref (am 7)])), ((am 1), .inl (ct 1, 334, .inr (.inl s1))), ((am 6), .inl (ct 1, 9, .inr (.inl before1)))] ∧ (rt9 = (mt cnt (fS S Bf) k).2.2 ∧ s1 210 = lN (mt cnt (fS S Bf) k).1 ∧ (∀ a j, a < 5 → j < (mt cnt (fS S Bf) k).1 → Ex a j k rt9 ∨ fS s1 before1 a j = (mt cnt (fS S Bf) k).2.1 a j) ∧ oth s1 S))) 0 0 (va_A [((am 0), .inr (8, [.int th, .ref (am 1), .ref (am 2), .ref (am 3), .ref (am 4), .ref (am 5), .long bu, .long he, .ref (am 6), .ref (am 7)])), ((am 1), .inl (ct 1, 334, .inr (.inl S))), ((am 6), .inl (ct 1, 9, .inr (.inl Bf)))] sz) := by
  refine enterW (by decide) (Nat.le_of_ble_eq_true rfl) ?_
  intro p e s m args below meth c ls A hx hb hr hml hown hts hlk hin hsz hAe hP hD hA hE hV hS hl
  have hl : lv_has ls 14 [(0, .ref (am 0)), (1, .int (nI k)), (2, .long pl)] := hl
  obtain ⟨p0, p1, p2, p3⟩ := fb2 hFB (show k < cnt by omega)
  obtain ⟨q0, q1, q2, q3⟩ := fb2 hFB hk
  refine lv_aload_n hx hb d_M_shocksMeet_0 rfl (lv_at hl 0 rfl) ?_
  refine q_get 0 1 i_M rfl hx hb hts hown hE hP rfl (by decide) x_937 rfl d_M_shocksMeet_1 ?_
  refine lv_sipush (v := 227) hx hb d_M_shocksMeet_4 (by decide) ?_
  refine lv_iload_n hx hb d_M_shocksMeet_7 rfl (lv_at hl 1 rfl) ?_
  refine q_iadd (v := nI (227 + k)) hx hb d_M_shocksMeet_8 (nI_add 227 k) ?_
  refine q_lald (k := 227 + k) 1 hx hb hE hP rfl rfl (by omega) (by decide) d_M_shocksMeet_9 ?_
  refine lv_lstore (lv' := [(4, .long (S (227 + k))), (0, .ref (am 0)), (1, .int (nI k)), (2, .long pl)]) hx hb d_M_shocksMeet_10 hl (by decide) rfl (fun ls hl => ?_)
  refine lv_aload_n hx hb d_M_shocksMeet_12 rfl (lv_at hl 1 rfl) ?_
  refine q_get 0 1 i_M rfl hx hb hts hown hE hP rfl (by decide) x_937 rfl d_M_shocksMeet_13 ?_
  refine lv_sipush (v := 227) hx hb d_M_shocksMeet_16 (by decide) ?_
  refine lv_iload_n hx hb d_M_shocksMeet_19 rfl (lv_at hl 2 rfl) ?_
  refine q_iadd (v := nI (227 + k)) hx hb d_M_shocksMeet_20 (nI_add 227 k) ?_
  refine lv_iconst (v := 1) hx hb d_M_shocksMeet_21 (by decide) ?_
  refine q_iadd (v := nI ((227 + k) + 1)) hx hb d_M_shocksMeet_22 (nI_add (227 + k) 1) ?_
  refine q_lald (k := (227 + k) + 1) 1 hx hb hE hP rfl rfl (by omega) (by decide) d_M_shocksMeet_23 ?_
  refine q_topl (v := S (227 + (k + 1))) (congrArg S (by omega)) ?_
  refine lv_lstore (lv' := [(6, .long (S (227 + (k + 1)))), (4, .long (S (227 + k))), (0, .ref (am 0)), (1, .int (nI k)), (2, .long pl)]) hx hb d_M_shocksMeet_24 hl (by decide) rfl (fun ls hl => ?_)
  refine lv_aload_n hx hb d_M_shocksMeet_26 rfl (lv_at hl 2 rfl) ?_
  refine q_get 0 1 i_M rfl hx hb hts hown hE hP rfl (by decide) x_937 rfl d_M_shocksMeet_27 ?_
  refine lv_sipush (v := 235) hx hb d_M_shocksMeet_30 (by decide) ?_
  refine lv_iload_n hx hb d_M_shocksMeet_33 rfl (lv_at hl 3 rfl) ?_
  refine q_iadd (v := nI (235 + k)) hx hb d_M_shocksMeet_34 (nI_add 235 k) ?_
  refine q_lald (k := 235 + k) 1 hx hb hE hP rfl rfl (by omega) (by decide) d_M_shocksMeet_35 ?_
  refine lv_lstore (lv' := [(8, .long (S (235 + k))), (6, .long (S (227 + (k + 1)))), (4, .long (S (227 + k))), (0, .ref (am 0)), (1, .int (nI k)), (2, .long pl)]) hx hb d_M_shocksMeet_36 hl (by decide) rfl (fun ls hl => ?_)
  refine lv_aload_n hx hb d_M_shocksMeet_38 rfl (lv_at hl 3 rfl) ?_
  refine q_get 0 1 i_M rfl hx hb hts hown hE hP rfl (by decide) x_937 rfl d_M_shocksMeet_39 ?_
  refine lv_sipush (v := 235) hx hb d_M_shocksMeet_42 (by decide) ?_
  refine lv_iload_n hx hb d_M_shocksMeet_45 rfl (lv_at hl 4 rfl) ?_
  refine q_iadd (v := nI (235 + k)) hx hb d_M_shocksMeet_46 (nI_add 235 k) ?_
  refine lv_iconst (v := 1) hx hb d_M_shocksMeet_47 (by decide) ?_
  refine q_iadd (v := nI ((235 + k) + 1)) hx hb d_M_shocksMeet_48 (nI_add (235 + k) 1) ?_
  refine q_lald (k := (235 + k) + 1) 1 hx hb hE hP rfl rfl (by omega) (by decide) d_M_shocksMeet_49 ?_
  refine q_topl (v := S (235 + (k + 1))) (congrArg S (by omega)) ?_
  refine lv_lstore (lv' := [(10, .long (S (235 + (k + 1)))), (8, .long (S (235 + k))), (6, .long (S (227 + (k + 1)))), (4, .long (S (227 + k))), (0, .ref (am 0)), (1, .int (nI k)), (2, .long pl)]) hx hb d_M_shocksMeet_50 hl (by decide) rfl (fun ls hl => ?_)
  refine lv_lload hx hb d_M_shocksMeet_52 (lv_at hl 3 rfl) ?_
  refine lv_lload hx hb d_M_shocksMeet_54 (lv_at hl 2 rfl) ?_
  refine cRS (As := [.long (S (227 + k)), .long (S (227 + (k + 1)))]) (rest := []) K_M_goThrough x_1161 hx hb hml hown hts hE hV hS (c_M_goThrough l D ct st (S (227 + k)) (S (227 + (k + 1)))) (fun k q h => by simp at h) rfl hl.1 rfl (Nat.le_of_ble_eq_true rfl) d_M_shocksMeet_56 (Nat.le_of_ble_eq_true rfl) (Nat.le_of_ble_eq_true rfl) ⟨Nat.le_of_ble_eq_true rfl, Nat.le_of_ble_eq_true rfl⟩ ?_
  refine q_ifne_b (tgt := 116) hx hb d_M_shocksMeet_59 (by decide) (fun h_59 => ?_) (fun h_59 => ?_)
  · have ht9 : mt_thru (fS S Bf) k := by unfold mt_thru; rw [fS2, fS2]; exact h_59
    refine lv_aload_n hx hb d_M_shocksMeet_116 rfl (lv_at hl 4 rfl) ?_
    refine lv_iload_n hx hb d_M_shocksMeet_117 rfl (lv_at hl 5 rfl) ?_
    refine cWV (As := [.int (nI k)]) (rest := []) (q9 := 0) (ci := 8) K_M_turns x_1164 hx hb hml hown hts hE hV hS (c_M_turns l D ct st am th bu he S Bf k (by omega) _) hP hD hA [0, 1, 2] [] (wr := []) rfl rfl (by decide) (by decide) (by decide) rfl hP rfl rfl hl.1 rfl (Nat.le_of_ble_eq_true rfl) d_M_shocksMeet_118 (Nat.le_of_ble_eq_true rfl) (Nat.le_of_ble_eq_true rfl) ⟨Nat.le_of_ble_eq_true rfl, Nat.le_of_ble_eq_true rfl⟩ (fun v W1 H locs hpost hP hD hS => ?_)
    obtain ⟨s1_1, before1_1, rfl, rfl, hq_118⟩ := hpost
    have hP : va_P D classes [((am 0), .inr (8, [.int th, .ref (am 1), .ref (am 2), .ref (am 3), .ref (am 4), .ref (am 5), .long bu, .long he, .ref (am 6), .ref (am 7)])), ((am 1), .inl (ct 1, 334, .inr (.inl s1_1))), ((am 6), .inl (ct 1, 9, .inr (.inl before1_1)))] H := hP
    have hD : va_D A [((am 0), .inr (8, [.int th, .ref (am 1), .ref (am 2), .ref (am 3), .ref (am 4), .ref (am 5), .long bu, .long he, .ref (am 6), .ref (am 7)])), ((am 1), .inl (ct 1, 334, .inr (.inl s1_1))), ((am 6), .inl (ct 1, 9, .inr (.inl before1_1)))] := hD
    refine lv_lload hx hb d_M_shocksMeet_121 (lv_at hl 1 rfl) ?_
    refine lv_lload hx hb d_M_shocksMeet_123 (lv_at hl 0 rfl) ?_
    refine W.lcmp hx hb d_M_shocksMeet_125 ?_
    refine q_cmp_eq (tgt := 181) hx hb d_M_shocksMeet_126 (by decide) (fun h_126 => ?_) (fun h_126 => ?_)
    · have hf9 : ¬ (fS S Bf 3 k ≠ fS S Bf 3 (k + 1) ∧ cnt < 8) := fun z => z.1 (by rw [fS3, fS3, h_126])
      refine lv_iload_n hx hb d_M_shocksMeet_181 rfl (lv_at hl 5 rfl) ?_
      refine lv_iconst (v := 1) hx hb d_M_shocksMeet_182 (by decide) ?_
      refine q_iadd (v := nI (k + 1)) hx hb d_M_shocksMeet_183 (nI_add k 1) ?_
      exact rW_i hx hb hr hlk hAe hS hP hD (Nat.le_of_ble_eq_true rfl) (Nat.le_of_ble_eq_true rfl) d_M_shocksMeet_184 ⟨s1_1, before1_1, k + 1, rfl, rfl, by
            have key := smB1 hk hn8 hss ht9 hf9 hq_118.1
            exact ⟨key.2.1.symm, by rw [key.1]; exact hq_118.2.1.trans hcnt, by rw [key.1]; exact key.2.2, hq_118.2.2⟩⟩
    · refine lv_aload_n hx hb d_M_shocksMeet_129 rfl (lv_at hl 4 rfl) ?_
      refine q_get 0 1 i_M rfl hx hb hts hown hE hP rfl (by decide) x_937 rfl d_M_shocksMeet_130 ?_
      refine lv_sipush (v := 210) hx hb d_M_shocksMeet_133 (by decide) ?_
      refine q_lald (k := 210) 1 hx hb hE hP rfl rfl (by omega) (by decide) d_M_shocksMeet_136 ?_
      refine q_topl (v := lN cnt) (hq_118.2.1.trans hcnt) ?_
      refine lv_ldc2 (v := 8) hx hb hown (hts _ (List.mem_cons_of_mem _ x_1124)) d_M_shocksMeet_137 ?_
      refine W.lcmp hx hb d_M_shocksMeet_140 ?_
      refine q_cmp_ge (tgt := 181) hx hb d_M_shocksMeet_141 (by decide) (fun h_141 => ?_) (fun h_141 => ?_)
      · have hf9 : ¬ (fS S Bf 3 k ≠ fS S Bf 3 (k + 1) ∧ cnt < 8) := fun z => absurd ((lN_le (a := 8) (b := cnt) (by omega) (by omega)).mp h_141) (by omega)
        refine lv_iload_n hx hb d_M_shocksMeet_181 rfl (lv_at hl 5 rfl) ?_
        refine lv_iconst (v := 1) hx hb d_M_shocksMeet_182 (by decide) ?_
        refine q_iadd (v := nI (k + 1)) hx hb d_M_shocksMeet_183 (nI_add k 1) ?_
        exact rW_i hx hb hr hlk hAe hS hP hD (Nat.le_of_ble_eq_true rfl) (Nat.le_of_ble_eq_true rfl) d_M_shocksMeet_184 ⟨s1_1, before1_1, k + 1, rfl, rfl, by
            have key := smB1 hk hn8 hss ht9 hf9 hq_118.1
            exact ⟨key.2.1.symm, by rw [key.1]; exact hq_118.2.1.trans hcnt, by rw [key.1]; exact key.2.2, hq_118.2.2⟩⟩
      · have hf9 : fS S Bf 3 k ≠ fS S Bf 3 (k + 1) ∧ cnt < 8 := ⟨fun z => h_126 (by rw [fS3, fS3] at z; exact Int64.toInt_inj.mp z), by have : ¬ lN 8 ≤ lN cnt := h_141; rw [lN_le (by omega) (by omega)] at this; omega⟩
        refine lv_aload_n hx hb d_M_shocksMeet_144 rfl (lv_at hl 4 rfl) ?_
        refine lv_iload_n hx hb d_M_shocksMeet_145 rfl (lv_at hl 5 rfl) ?_
        refine lv_iconst (v := 1) hx hb d_M_shocksMeet_146 (by decide) ?_
        refine q_iadd (v := nI (k + 1)) hx hb d_M_shocksMeet_147 (nI_add k 1) ?_
        refine cWV (As := [.int (nI (k + 1))]) (rest := []) (q9 := 0) (ci := 8) K_M_opens x_1125 hx hb hml hown hts hE hV hS (c_M_opens l D ct st am th bu he s1_1 before1_1 cnt (k + 1) (hq_118.2.1.trans hcnt) (hf9.2) (by omega) _) hP hD hA [0, 1, 2] [] (wr := []) rfl rfl (by decide) (by decide) (by decide) rfl hP rfl rfl hl.1 rfl (Nat.le_of_ble_eq_true rfl) d_M_shocksMeet_148 (Nat.le_of_ble_eq_true rfl) (Nat.le_of_ble_eq_true rfl) ⟨Nat.le_of_ble_eq_true rfl, Nat.le_of_ble_eq_true rfl⟩ (fun v W1 H locs hpost hP hD hS => ?_)
        obtain ⟨s1_2, before1_2, rfl, rfl, hq_148⟩ := hpost
        have hP : va_P D classes [((am 0), .inr (8, [.int th, .ref (am 1), .ref (am 2), .ref (am 3), .ref (am 4), .ref (am 5), .long bu, .long he, .ref (am 6), .ref (am 7)])), ((am 1), .inl (ct 1, 334, .inr (.inl s1_2))), ((am 6), .inl (ct 1, 9, .inr (.inl before1_2)))] H := hP
        have hD : va_D A [((am 0), .inr (8, [.int th, .ref (am 1), .ref (am 2), .ref (am 3), .ref (am 4), .ref (am 5), .long bu, .long he, .ref (am 6), .ref (am 7)])), ((am 1), .inl (ct 1, 334, .inr (.inl s1_2))), ((am 6), .inl (ct 1, 9, .inr (.inl before1_2)))] := hD
        refine lv_aload_n hx hb d_M_shocksMeet_151 rfl (lv_at hl 4 rfl) ?_
        refine lv_iload_n hx hb d_M_shocksMeet_152 rfl (lv_at hl 5 rfl) ?_
        refine lv_iconst (v := 1) hx hb d_M_shocksMeet_153 (by decide) ?_
        refine q_iadd (v := nI (k + 1)) hx hb d_M_shocksMeet_154 (nI_add k 1) ?_
        refine lv_lconst (v := 1) hx hb d_M_shocksMeet_155 (by decide) ?_
        refine lv_lload_n hx hb d_M_shocksMeet_156 rfl (lv_at hl 6 rfl) ?_
        refine lv_lload hx hb d_M_shocksMeet_157 (lv_at hl 3 rfl) ?_
        refine lv_lload hx hb d_M_shocksMeet_159 (lv_at hl 2 rfl) ?_
        refine lv_ladd hx hb d_M_shocksMeet_161 ?_
        refine lv_ldc2 (v := 10) hx hb hown (hts _ (List.mem_cons_of_mem _ x_1168)) d_M_shocksMeet_162 ?_
        refine lv_ldiv hx hb d_M_shocksMeet_165 (by decide) ?_
        refine lv_lload hx hb d_M_shocksMeet_166 (lv_at hl 1 rfl) ?_
        refine lv_lload hx hb d_M_shocksMeet_168 (lv_at hl 0 rfl) ?_
        refine lv_lsub hx hb d_M_shocksMeet_170 ?_
        refine cRS (As := [.long ((S (235 + k)) - (S (235 + (k + 1))))]) (rest := [.long (((S (227 + k)) + (S (227 + (k + 1)))) / 10), .long pl, .long 1, .int (nI (k + 1)), .ref (am 0)]) K_M_size x_1035 hx hb hml hown hts hE hV hS (c_M_size l D ct st ((S (235 + k)) - (S (235 + (k + 1))))) (fun k q h => by simp at h) rfl hl.1 rfl (Nat.le_of_ble_eq_true rfl) d_M_shocksMeet_171 (Nat.le_of_ble_eq_true rfl) (Nat.le_of_ble_eq_true rfl) ⟨Nat.le_of_ble_eq_true rfl, Nat.le_of_ble_eq_true rfl⟩ ?_
        refine cWV (As := [.int (nI (k + 1)), .long 1, .long pl, .long (((S (227 + k)) + (S (227 + (k + 1)))) / 10), .long (w_sz ((S (235 + k)) - (S (235 + (k + 1)))))]) (rest := []) (q9 := 0) (ci := 8) K_M_sets x_1133 hx hb hml hown hts hE hV hS (c_M_sets l D ct st am th bu he s1_2 before1_2 (k + 1) 1 pl (((S (227 + k)) + (S (227 + (k + 1)))) / 10) (w_sz ((S (235 + k)) - (S (235 + (k + 1))))) (by omega) _) hP hD hA [0, 1, 2] [] (wr := []) rfl rfl (by decide) (by decide) (by decide) rfl hP rfl rfl hl.1 rfl (Nat.le_of_ble_eq_true rfl) d_M_shocksMeet_174 (Nat.le_of_ble_eq_true rfl) (Nat.le_of_ble_eq_true rfl) ⟨Nat.le_of_ble_eq_true rfl, Nat.le_of_ble_eq_true rfl⟩ (fun v W1 H locs hpost hP hD hS => ?_)
        obtain ⟨s1_3, before1_3, rfl, rfl, hq_174⟩ := hpost
        have hP : va_P D classes [((am 0), .inr (8, [.int th, .ref (am 1), .ref (am 2), .ref (am 3), .ref (am 4), .ref (am 5), .long bu, .long he, .ref (am 6), .ref (am 7)])), ((am 1), .inl (ct 1, 334, .inr (.inl s1_3))), ((am 6), .inl (ct 1, 9, .inr (.inl before1_3)))] H := hP
        have hD : va_D A [((am 0), .inr (8, [.int th, .ref (am 1), .ref (am 2), .ref (am 3), .ref (am 4), .ref (am 5), .long bu, .long he, .ref (am 6), .ref (am 7)])), ((am 1), .inl (ct 1, 334, .inr (.inl s1_3))), ((am 6), .inl (ct 1, 9, .inr (.inl before1_3)))] := hD
        refine lv_iload_n hx hb d_M_shocksMeet_177 rfl (lv_at hl 5 rfl) ?_
        refine lv_iconst (v := 2) hx hb d_M_shocksMeet_178 (by decide) ?_
        refine q_iadd (v := nI (k + 2)) hx hb d_M_shocksMeet_179 (nI_add k 2) ?_
        exact rW_i hx hb hr hlk hAe hS hP hD (Nat.le_of_ble_eq_true rfl) (Nat.le_of_ble_eq_true rfl) d_M_shocksMeet_180 ⟨s1_3, before1_3, k + 2, rfl, rfl, by
            have key := smB2 hk hss ht9 hf9 hq_118.1 hq_148.1 hq_174.1 hpl (by rw [fS2, fS2, div10, tadd (K := 900) (by omega) (by omega) (by omega)]) (by rw [fS3, fS3, sz_abs (by rw [tsub (K := 900) (by omega) (by omega) (by omega)]; omega), tsub (K := 900) (by omega) (by omega) (by omega)])
            exact ⟨key.2.1.symm, by rw [key.1]; exact hq_174.2.1.trans hq_148.2.1, by rw [key.1]; exact key.2.2, hq_174.2.2.trans (hq_148.2.2.trans hq_118.2.2)⟩⟩
  · have ht9 : ¬ mt_thru (fS S Bf) k := by unfold mt_thru; rw [fS2, fS2]; exact h_59
    refine lv_lload hx hb d_M_shocksMeet_62 (lv_at hl 1 rfl) ?_
    refine lv_lload hx hb d_M_shocksMeet_64 (lv_at hl 0 rfl) ?_
    refine lv_ladd hx hb d_M_shocksMeet_66 ?_
    refine lv_lstore (lv' := [(12, .long ((S (235 + k)) + (S (235 + (k + 1))))), (10, .long (S (235 + (k + 1)))), (8, .long (S (235 + k))), (6, .long (S (227 + (k + 1)))), (4, .long (S (227 + k))), (0, .ref (am 0)), (1, .int (nI k)), (2, .long pl)]) hx hb d_M_shocksMeet_67 hl (by decide) rfl (fun ls hl => ?_)
    refine lv_aload_n hx hb d_M_shocksMeet_69 rfl (lv_at hl 5 rfl) ?_
    refine lv_iload_n hx hb d_M_shocksMeet_70 rfl (lv_at hl 6 rfl) ?_
    refine lv_lconst (v := 0) hx hb d_M_shocksMeet_71 (by decide) ?_
    refine lv_lload_n hx hb d_M_shocksMeet_72 rfl (lv_at hl 7 rfl) ?_
    refine lv_lload hx hb d_M_shocksMeet_73 (lv_at hl 4 rfl) ?_
    refine lv_lload hx hb d_M_shocksMeet_75 (lv_at hl 2 rfl) ?_
    refine lv_lmul hx hb d_M_shocksMeet_77 ?_
    refine lv_lload hx hb d_M_shocksMeet_78 (lv_at hl 3 rfl) ?_
    refine lv_lload hx hb d_M_shocksMeet_80 (lv_at hl 1 rfl) ?_
    refine lv_lmul hx hb d_M_shocksMeet_82 ?_
    refine lv_ladd hx hb d_M_shocksMeet_83 ?_
    refine lv_lload hx hb d_M_shocksMeet_84 (lv_at hl 0 rfl) ?_
    refine lv_ldiv hx hb d_M_shocksMeet_86 (ne0 (by rw [tadd (K := 900) (by omega) (by omega) (by omega)]; omega)) ?_
    refine lv_topl (fun wm ewm => ?_)
    refine lv_lload hx hb d_M_shocksMeet_87 (lv_at hl 0 rfl) ?_
    refine lv_ldc2 (v := 900) hx hb hown (hts _ (List.mem_cons_of_mem _ x_1123)) d_M_shocksMeet_89 ?_
    refine W.lcmp hx hb d_M_shocksMeet_92 ?_
    have join_104 : ∀ (mi : Int64) (hmi : mi = (if (S (235 + k) + S (235 + (k + 1))) ≤ 900 then (S (235 + k) + S (235 + (k + 1))) else 900)) (H : Heap) (locs : List Loc) (ls : Array Slot), va_P D classes [((am 0), .inr (8, [.int th, .ref (am 1), .ref (am 2), .ref (am 3), .ref (am 4), .ref (am 5), .long bu, .long he, .ref (am 6), .ref (am 7)])), ((am 1), .inl (ct 1, 334, .inr (.inl S))), ((am 6), .inl (ct 1, 9, .inr (.inl Bf)))] H → va_D A [((am 0), .inr (8, [.int th, .ref (am 1), .ref (am 2), .ref (am 3), .ref (am 4), .ref (am 5), .long bu, .long he, .ref (am 6), .ref (am 7)])), ((am 1), .inl (ct 1, 334, .inr (.inl S))), ((am 6), .inl (ct 1, 9, .inr (.inl Bf)))] → va_S A s.heap H locs → lv_has ls 14 [(0, .ref (am 0)), (1, .int (nI k)), (2, .long pl), (4, .long (S (227 + k))), (6, .long (S (227 + (k + 1)))), (8, .long (S (235 + k))), (10, .long (S (235 + (k + 1)))), (12, .long ((S (235 + k)) + (S (235 + (k + 1)))))] → W p l e (rmW 2 0 0 58) s m args below meth c H locs (0) (0) (MQ below (QcW D [((am 0), .inr (8, [.int th, .ref (am 1), .ref (am 2), .ref (am 3), .ref (am 4), .ref (am 5), .long bu, .long he, .ref (am 6), .ref (am 7)])), ((am 1), .inl (ct 1, 334, .inr (.inl S))), ((am 6), .inl (ct 1, 9, .inr (.inl Bf)))] sz (fun v W1 => ∃ (s1 : Nat → Int64) (before1 : Nat → Int64) (rt9 : Nat), v = some (.int (nI rt9)) ∧ W1 = [((am 0), .inr (8, [.int th, .ref (am 1), .ref (am 2), .ref (am 3), .ref (am 4), .ref (am 5), .long bu, .long he, .ref (am 6), .ref (am 7)])), ((am 1), .inl (ct 1, 334, .inr (.inl s1))), ((am 6), .inl (ct 1, 9, .inr (.inl before1)))] ∧ (rt9 = (mt cnt (fS S Bf) k).2.2 ∧ s1 210 = lN (mt cnt (fS S Bf) k).1 ∧ (∀ a j, a < 5 → j < (mt cnt (fS S Bf) k).1 → Ex a j k rt9 ∨ fS s1 before1 a j = (mt cnt (fS S Bf) k).2.1 a j) ∧ oth s1 S))) args s 0 0 A) (F0 m 104 ls [.long mi, .long wm, .long pl, .long 0, .int (nI k), .ref (am 0)]) := by
      intro mi hmi H locs ls hP hD hS hl
      refine cWV (As := [.int (nI k), .long 0, .long pl, .long wm, .long mi]) (rest := []) (q9 := 0) (ci := 8) K_M_sets x_1133 hx hb hml hown hts hE hV hS (c_M_sets l D ct st am th bu he S Bf k 0 pl wm mi (by omega) _) hP hD hA [0, 1, 2] [] (wr := []) rfl rfl (by decide) (by decide) (by decide) rfl hP rfl rfl hl.1 rfl (Nat.le_of_ble_eq_true rfl) d_M_shocksMeet_104 (Nat.le_of_ble_eq_true rfl) (Nat.le_of_ble_eq_true rfl) ⟨Nat.le_of_ble_eq_true rfl, Nat.le_of_ble_eq_true rfl⟩ (fun v W1 H locs hpost hP hD hS => ?_)
      obtain ⟨s1_4, before1_4, rfl, rfl, hq_104⟩ := hpost
      have hP : va_P D classes [((am 0), .inr (8, [.int th, .ref (am 1), .ref (am 2), .ref (am 3), .ref (am 4), .ref (am 5), .long bu, .long he, .ref (am 6), .ref (am 7)])), ((am 1), .inl (ct 1, 334, .inr (.inl s1_4))), ((am 6), .inl (ct 1, 9, .inr (.inl before1_4)))] H := hP
      have hD : va_D A [((am 0), .inr (8, [.int th, .ref (am 1), .ref (am 2), .ref (am 3), .ref (am 4), .ref (am 5), .long bu, .long he, .ref (am 6), .ref (am 7)])), ((am 1), .inl (ct 1, 334, .inr (.inl s1_4))), ((am 6), .inl (ct 1, 9, .inr (.inl before1_4)))] := hD
      refine lv_aload_n hx hb d_M_shocksMeet_107 rfl (lv_at hl 0 rfl) ?_
      refine lv_iload_n hx hb d_M_shocksMeet_108 rfl (lv_at hl 1 rfl) ?_
      refine lv_iconst (v := 1) hx hb d_M_shocksMeet_109 (by decide) ?_
      refine q_iadd (v := nI (k + 1)) hx hb d_M_shocksMeet_110 (nI_add k 1) ?_
      refine cWV (As := [.int (nI (k + 1))]) (rest := []) (q9 := 0) (ci := 8) K_M_removes x_1145 hx hb hml hown hts hE hV hS (c_M_removes l D ct st am th bu he s1_4 before1_4 cnt (k + 1) (hq_104.2.1.trans hcnt) (hn8) (by omega) _) hP hD hA [0, 1, 2] [] (wr := []) rfl rfl (by decide) (by decide) (by decide) rfl hP rfl rfl hl.1 rfl (Nat.le_of_ble_eq_true rfl) d_M_shocksMeet_111 (Nat.le_of_ble_eq_true rfl) (Nat.le_of_ble_eq_true rfl) ⟨Nat.le_of_ble_eq_true rfl, Nat.le_of_ble_eq_true rfl⟩ (fun v W1 H locs hpost hP hD hS => ?_)
      obtain ⟨s1_5, before1_5, rfl, rfl, hq_111⟩ := hpost
      have hP : va_P D classes [((am 0), .inr (8, [.int th, .ref (am 1), .ref (am 2), .ref (am 3), .ref (am 4), .ref (am 5), .long bu, .long he, .ref (am 6), .ref (am 7)])), ((am 1), .inl (ct 1, 334, .inr (.inl s1_5))), ((am 6), .inl (ct 1, 9, .inr (.inl before1_5)))] H := hP
      have hD : va_D A [((am 0), .inr (8, [.int th, .ref (am 1), .ref (am 2), .ref (am 3), .ref (am 4), .ref (am 5), .long bu, .long he, .ref (am 6), .ref (am 7)])), ((am 1), .inl (ct 1, 334, .inr (.inl s1_5))), ((am 6), .inl (ct 1, 9, .inr (.inl before1_5)))] := hD
      refine lv_iload_n hx hb d_M_shocksMeet_114 rfl (lv_at hl 1 rfl) ?_
      exact rW_i hx hb hr hlk hAe hS hP hD (Nat.le_of_ble_eq_true rfl) (Nat.le_of_ble_eq_true rfl) d_M_shocksMeet_115 ⟨s1_5, before1_5, k, rfl, rfl, by
            have key := smA hk hn8 hss ht9 (pl := pl.toInt) hq_104.1 hpl (by rw [fS2, fS2, fS3, fS3]; rw [ewm]; exact wm_val p2 p3 q2 q3) (by rw [fS3, fS3, hmi, min9, tadd (K := 900) (by omega) (by omega) (by omega)]) hq_111.1
            exact ⟨key.2.1.symm, by rw [key.1]; exact hq_111.2.1, by rw [key.1]; exact key.2.2, hq_111.2.2.trans hq_104.2.2⟩⟩
    refine q_cmp_le (tgt := 102) hx hb d_M_shocksMeet_93 (by decide) (fun h_93 => ?_) (fun h_93 => ?_)
    · refine lv_lload hx hb d_M_shocksMeet_102 (lv_at hl 0 rfl) ?_
      exact join_104 ((S (235 + k)) + (S (235 + (k + 1)))) (by first | exact (if_pos h_93).symm | exact (if_neg h_93).symm) _ _ _ hP hD hS (lv_sub hl [5, 6, 7, 4, 3, 2, 1, 0] rfl)
    · refine lv_ldc2 (v := 900) hx hb hown (hts _ (List.mem_cons_of_mem _ x_1123)) d_M_shocksMeet_96 ?_
      refine lv_goto (tgt := 104) hx hb d_M_shocksMeet_99 (by decide) ?_
      exact join_104 900 (by first | exact (if_pos h_93).symm | exact (if_neg h_93).symm) _ _ _ hP hD hS (lv_sub hl [5, 6, 7, 4, 3, 2, 1, 0] rfl)
set_option maxHeartbeats 4000000 in
set_option maxRecDepth 100000 in
theorem c_M_passes (l : Launch) (D : va_G) (ct : Nat → ClassId) (st : Nat → Nat) (am : Nat → Nat) (th : Int32) (bu : Int64) (he : Int64) (S : Nat → Int64) (Bf : Nat → Int64) (cnt : Nat) (k : Nat) (hcnt : S 210 = lN cnt) (hn8 : cnt ≤ 8) (hk : k + 1 < cnt) (hFB : FB cnt (fS S Bf)) (hs : ¬ (fS S Bf 0 k = 0 ∧ fS S Bf 0 (k + 1) = 0)) (hd : fS S Bf 0 k = 0 ∨ fS S Bf 0 (k + 1) = 0) (sz : Nat) : Met l y_M_passes (wsy y_M_passes b_M_passes 7 (some .int)) (rmW 2 0 0 58) (PcW D ct st [.ref (am 0), .int (nI k)] [((am 0), .inr (8, [.int th, .ref (am 1), .ref (am 2), .ref (am 3), .ref (am 4), .ref (am 5), .long bu, .long he, .ref (am 6), .ref (am 7)])), ((am 1), .inl (ct 1, 334, .inr (.inl S))), ((am 6), .inl (ct 1, 9, .inr (.inl Bf)))] sz) (QcW D [((am 0), .inr (8, [.int th, .ref (am 1), .ref (am 2), .ref (am 3), .ref (am 4), .ref (am 5), .long bu, .long he, .ref (am 6), .ref (am 7)])), ((am 1), .inl (ct 1, 334, .inr (.inl S))), ((am 6), .inl (ct 1, 9, .inr (.inl Bf)))] sz (fun v W1 => ∃ (s1 : Nat → Int64) (before1 : Nat → Int64) (rt9 : Nat), v = some (.int (nI rt9)) ∧ W1 = [((am 0), .inr (8, [.int th, .ref (am 1), .ref (am 2), .ref (am 3), .ref (am 4), .ref (am 5), .long bu, .long he, .ref (am 6), .ref (am 7)])), ((am 1), .inl (ct 1, 334, .inr (.inl s1))), ((am 6), .inl (ct 1, 9, .inr (.inl before1)))] ∧ (rt9 = (mt cnt (fS S Bf) k).2.2 ∧ s1 210 = lN (mt cnt (fS S Bf) k).1 ∧ (∀ a j, a < 5 → j < (mt cnt (fS S Bf) k).1 → Ex a j k rt9 ∨ fS s1 before1 a j = (mt cnt (fS S Bf) k).2.1 a j) ∧ oth s1 S))) 0 0 (va_A [((am 0), .inr (8, [.int th, .ref (am 1), .ref (am 2), .ref (am 3), .ref (am 4), .ref (am 5), .long bu, .long he, .ref (am 6), .ref (am 7)])), ((am 1), .inl (ct 1, 334, .inr (.inl S))), ((am 6), .inl (ct 1, 9, .inr (.inl Bf)))] sz) := by
  refine enterW (by decide) (Nat.le_of_ble_eq_true rfl) ?_
  intro p e s m args below meth c ls A hx hb hr hml hown hts hlk hin hsz hAe hP hD hA hE hV hS hl
  have hl : lv_has ls 7 [(0, .ref (am 0)), (1, .int (nI k))] := hl
  obtain ⟨p0, p1, p2, p3⟩ := fb2 hFB (show k < cnt by omega)
  obtain ⟨q0, q1, q2, q3⟩ := fb2 hFB hk
  refine lv_aload_n hx hb d_M_passes_0 rfl (lv_at hl 0 rfl) ?_
  refine q_get 0 1 i_M rfl hx hb hts hown hE hP rfl (by decide) x_937 rfl d_M_passes_1 ?_
  refine lv_sipush (v := 211) hx hb d_M_passes_4 (by decide) ?_
  refine lv_iload_n hx hb d_M_passes_7 rfl (lv_at hl 1 rfl) ?_
  refine q_iadd (v := nI (211 + k)) hx hb d_M_passes_8 (nI_add 211 k) ?_
  refine q_lald (k := 211 + k) 1 hx hb hE hP rfl rfl (by omega) (by decide) d_M_passes_9 ?_
  refine lv_lconst (v := 0) hx hb d_M_passes_10 (by decide) ?_
  refine W.lcmp hx hb d_M_passes_11 ?_
  refine q_cmp_ne (tgt := 19) hx hb d_M_passes_12 (by decide) (fun h_12 => ?_) (fun h_12 => ?_)
  · refine lv_iconst (v := 0) hx hb d_M_passes_19 (by decide) ?_
    refine lv_istore_n (lv' := [(2, .int 0), (0, .ref (am 0)), (1, .int (nI k))]) hx hb d_M_passes_20 rfl hl (by decide) rfl (fun ls hl => ?_)
    refine lv_iload_n hx hb d_M_passes_21 rfl (lv_at hl 0 rfl) ?_
    refine lv_if_eq (tgt := 29) hx hb d_M_passes_22 (by decide) (fun _ => ?_) (fun h => absurd h (by decide))
    refine lv_iload_n hx hb d_M_passes_29 rfl (lv_at hl 2 rfl) ?_
    refine lv_iconst (v := 1) hx hb d_M_passes_30 (by decide) ?_
    refine q_iadd (v := nI (k + 1)) hx hb d_M_passes_31 (nI_add k 1) ?_
    refine lv_istore_n (lv' := [(3, .int (nI (k + 1))), (2, .int 0), (0, .ref (am 0)), (1, .int (nI k))]) hx hb d_M_passes_32 rfl hl (by decide) rfl (fun ls hl => ?_)
    refine lv_iload_n hx hb d_M_passes_33 rfl (lv_at hl 1 rfl) ?_
    refine lv_if_eq (tgt := 43) hx hb d_M_passes_34 (by decide) (fun _ => ?_) (fun h => absurd h (by decide))
    refine lv_iload_n hx hb d_M_passes_43 rfl (lv_at hl 3 rfl) ?_
    refine lv_istore (lv' := [(4, .int (nI k)), (3, .int (nI (k + 1))), (2, .int 0), (0, .ref (am 0)), (1, .int (nI k))]) hx hb d_M_passes_44 hl (by decide) rfl (fun ls hl => ?_)
    refine lv_aload_n hx hb d_M_passes_46 rfl (lv_at hl 3 rfl) ?_
    refine q_get 0 1 i_M rfl hx hb hts hown hE hP rfl (by decide) x_937 rfl d_M_passes_47 ?_
    refine lv_sipush (v := 211) hx hb d_M_passes_50 (by decide) ?_
    refine lv_iload hx hb d_M_passes_53 (lv_at hl 0 rfl) ?_
    refine q_iadd (v := nI (211 + k)) hx hb d_M_passes_55 (nI_add 211 k) ?_
    refine q_lald (k := 211 + k) 1 hx hb hE hP rfl rfl (by omega) (by decide) d_M_passes_56 ?_
    refine lv_lconst (v := 1) hx hb d_M_passes_57 (by decide) ?_
    refine W.lcmp hx hb d_M_passes_58 ?_
    refine q_cmp_ne (tgt := 105) hx hb d_M_passes_59 (by decide) (fun h_59 => ?_) (fun h_59 => ?_)
    · refine lv_aload_n hx hb d_M_passes_105 rfl (lv_at hl 3 rfl) ?_
      refine q_get 0 1 i_M rfl hx hb hts hown hE hP rfl (by decide) x_937 rfl d_M_passes_106 ?_
      refine lv_sipush (v := 227) hx hb d_M_passes_109 (by decide) ?_
      refine lv_iload hx hb d_M_passes_112 (lv_at hl 0 rfl) ?_
      refine q_iadd (v := nI (227 + k)) hx hb d_M_passes_114 (nI_add 227 k) ?_
      refine q_lald (k := 227 + k) 1 hx hb hE hP rfl rfl (by omega) (by decide) d_M_passes_115 ?_
      refine q_topl (v := S (227 + k)) (rfl) ?_
      refine lv_lstore (lv' := [(5, .long (S (227 + k))), (4, .int (nI k)), (3, .int (nI (k + 1))), (2, .int 0), (0, .ref (am 0)), (1, .int (nI k))]) hx hb d_M_passes_116 hl (by decide) rfl (fun ls hl => ?_)
      refine lv_aload_n hx hb d_M_passes_118 rfl (lv_at hl 4 rfl) ?_
      refine q_get 0 1 i_M rfl hx hb hts hown hE hP rfl (by decide) x_937 rfl d_M_passes_119 ?_
      refine lv_sipush (v := 227) hx hb d_M_passes_122 (by decide) ?_
      refine lv_iload hx hb d_M_passes_125 (lv_at hl 1 rfl) ?_
      refine q_iadd (v := nI (227 + k)) hx hb d_M_passes_127 (nI_add 227 k) ?_
      refine lv_aload_n hx hb d_M_passes_128 rfl (lv_at hl 4 rfl) ?_
      refine q_get 0 1 i_M rfl hx hb hts hown hE hP rfl (by decide) x_937 rfl d_M_passes_129 ?_
      refine lv_sipush (v := 211) hx hb d_M_passes_132 (by decide) ?_
      refine lv_iload hx hb d_M_passes_135 (lv_at hl 1 rfl) ?_
      refine q_iadd (v := nI (211 + k)) hx hb d_M_passes_137 (nI_add 211 k) ?_
      refine q_lald (k := 211 + k) 1 hx hb hE hP rfl rfl (by omega) (by decide) d_M_passes_138 ?_
      refine q_topl (v := S (211 + k)) (rfl) ?_
      refine lv_lconst (v := 1) hx hb d_M_passes_139 (by decide) ?_
      refine W.lcmp hx hb d_M_passes_140 ?_
      refine q_cmp_ne (tgt := 164) hx hb d_M_passes_141 (by decide) (fun h_141 => ?_) (fun h_141 => absurd h_141 h_59)
      refine lv_ldc2 (v := 2) hx hb hown (hts _ (List.mem_cons_of_mem _ x_976)) d_M_passes_164 ?_
      refine lv_lload hx hb d_M_passes_167 (lv_at hl 0 rfl) ?_
      refine lv_lmul hx hb d_M_passes_169 ?_
      refine cRS (As := [.long (2 * (S (227 + k)))]) (rest := [.int (nI (227 + k)), .ref (am 1)]) K_M_held x_1174 hx hb hml hown hts hE hV hS (c_M_held l D ct st (2 * (S (227 + k)))) (fun k q h => by simp at h) rfl hl.1 rfl (Nat.le_of_ble_eq_true rfl) d_M_passes_170 (Nat.le_of_ble_eq_true rfl) (Nat.le_of_ble_eq_true rfl) ⟨Nat.le_of_ble_eq_true rfl, Nat.le_of_ble_eq_true rfl⟩ ?_
      obtain ⟨s_1, es_1⟩ : ∃ g9 : Nat → Int64, g9 = vp_updL S (227 + k) (w_held (2 * (S (227 + k)))) := ⟨_, rfl⟩
      refine q_last (k := 227 + k) 1 (ws1 := [((am 0), .inr (8, [.int th, .ref (am 1), .ref (am 2), .ref (am 3), .ref (am 4), .ref (am 5), .long bu, .long he, .ref (am 6), .ref (am 7)])), ((am 1), .inl (ct 1, 334, .inr (.inl s_1))), ((am 6), .inl (ct 1, 9, .inr (.inl Bf)))]) es_1 hx hb hE hP hD hS rfl rfl (by omega) (by decide) rfl d_M_passes_173 (fun H locs hP hD hS => ?_)
      refine lv_aload_n hx hb d_M_passes_174 rfl (lv_at hl 4 rfl) ?_
      refine lv_iload_n hx hb d_M_passes_175 rfl (lv_at hl 5 rfl) ?_
      refine cWV (As := [.int (nI k)]) (rest := []) (q9 := 0) (ci := 8) K_M_turns x_1164 hx hb hml hown hts hE hV hS (c_M_turns l D ct st am th bu he s_1 Bf k (by omega) _) hP hD hA [0, 1, 2] [] (wr := []) rfl rfl (by decide) (by decide) (by decide) rfl hP rfl rfl hl.1 rfl (Nat.le_of_ble_eq_true rfl) d_M_passes_176 (Nat.le_of_ble_eq_true rfl) (Nat.le_of_ble_eq_true rfl) ⟨Nat.le_of_ble_eq_true rfl, Nat.le_of_ble_eq_true rfl⟩ (fun v W1 H locs hpost hP hD hS => ?_)
      obtain ⟨s1_1, before1_1, rfl, rfl, hq_176⟩ := hpost
      have hP : va_P D classes [((am 0), .inr (8, [.int th, .ref (am 1), .ref (am 2), .ref (am 3), .ref (am 4), .ref (am 5), .long bu, .long he, .ref (am 6), .ref (am 7)])), ((am 1), .inl (ct 1, 334, .inr (.inl s1_1))), ((am 6), .inl (ct 1, 9, .inr (.inl before1_1)))] H := hP
      have hD : va_D A [((am 0), .inr (8, [.int th, .ref (am 1), .ref (am 2), .ref (am 3), .ref (am 4), .ref (am 5), .long bu, .long he, .ref (am 6), .ref (am 7)])), ((am 1), .inl (ct 1, 334, .inr (.inl s1_1))), ((am 6), .inl (ct 1, 9, .inr (.inl before1_1)))] := hD
      refine lv_iload_n hx hb d_M_passes_179 rfl (lv_at hl 5 rfl) ?_
      refine lv_iconst (v := 1) hx hb d_M_passes_180 (by decide) ?_
      refine q_iadd (v := nI (k + 1)) hx hb d_M_passes_181 (nI_add k 1) ?_
      exact rW_i hx hb hr hlk hAe hS hP hD (Nat.le_of_ble_eq_true rfl) (Nat.le_of_ble_eq_true rfl) d_M_passes_182 ⟨s1_1, before1_1, k + 1, rfl, rfl, by
              have hU : ∀ a j, a < 5 → j < 8 → fS s_1 Bf a j = if a = 3 ∧ j = k + 1 then (S (235 + (k + 1)) : Int64).toInt else if a = 2 ∧ j = k then (w_held (2 * S (227 + k))).toInt else fS S Bf a j := by
                intro a j ha hj
                rcases a5 ha with rfl | rfl | rfl | rfl | rfl
                · rw [fS0, fS0, if_neg (by omega), if_neg (by omega)]; simp (disch := omega) only [es_1, pk_uLn, pk_uLs, pk_us, pk_un]
                · rw [fS1, fS1, if_neg (by omega), if_neg (by omega)]; simp (disch := omega) only [es_1, pk_uLn, pk_uLs, pk_us, pk_un]
                · rw [fS2, fS2, if_neg (by omega)]
                  by_cases q9 : j = k
                  · rw [if_pos ⟨rfl, q9⟩, q9]; simp (disch := omega) only [es_1, pk_uLn, pk_uLs, pk_us, pk_un]
                  · rw [if_neg (by omega)]; simp (disch := omega) only [es_1, pk_uLn, pk_uLs, pk_us, pk_un]
                · rw [fS3, fS3]
                  by_cases q9 : j = k + 1
                  · rw [if_pos ⟨rfl, q9⟩, q9]; simp (disch := omega) only [es_1, pk_uLn, pk_uLs, pk_us, pk_un]
                  · rw [if_neg (by omega), if_neg (by omega)]; simp (disch := omega) only [es_1, pk_uLn, pk_uLs, pk_us, pk_un]
                · rw [fS4, fS4, if_neg (by omega), if_neg (by omega)]
              have key := pas hs hd (x := k + 1) (o := k) (by rw [fS0]; first | exact Or.inl ⟨eq0.mp h_12, rfl, rfl⟩ | exact Or.inr ⟨fun z => h_12 (eq0.mpr z), rfl, rfl⟩) (st_a (z := S (211 + k)) (fS0 S Bf _).symm h_59 (fS3 S Bf _).symm) (sp_b (z := S (211 + k)) (fS0 S Bf _).symm h_59 (fS2 S Bf _).symm p2) hU hq_176.1 hk hn8
              exact ⟨key.2.1.symm, by rw [key.1]; exact hq_176.2.1.trans ((show s_1 210 = S 210 by simp (disch := omega) only [es_1, pk_uLn, pk_uLs, pk_us, pk_un]).trans hcnt), by rw [key.1]; exact key.2.2, hq_176.2.2.trans (fun j hj => by simp (disch := omega) only [es_1, pk_uLn, pk_uLs, pk_us, pk_un])⟩⟩
    · refine lv_ldc2 (v := 9) hx hb hown (hts _ (List.mem_cons_of_mem _ x_1173)) d_M_passes_62 ?_
      refine lv_aload_n hx hb d_M_passes_65 rfl (lv_at hl 3 rfl) ?_
      refine q_get 0 1 i_M rfl hx hb hts hown hE hP rfl (by decide) x_937 rfl d_M_passes_66 ?_
      refine lv_sipush (v := 235) hx hb d_M_passes_69 (by decide) ?_
      refine lv_iload_n hx hb d_M_passes_72 rfl (lv_at hl 1 rfl) ?_
      refine q_iadd (v := nI (235 + (k + 1))) hx hb d_M_passes_73 (nI_add 235 (k + 1)) ?_
      refine q_lald (k := 235 + (k + 1)) 1 hx hb hE hP rfl rfl (by omega) (by decide) d_M_passes_74 ?_
      refine lv_lmul hx hb d_M_passes_75 ?_
      refine lv_ldc2 (v := 10) hx hb hown (hts _ (List.mem_cons_of_mem _ x_1168)) d_M_passes_76 ?_
      refine lv_ldiv hx hb d_M_passes_79 (by decide) ?_
      refine lv_lstore (lv' := [(5, .long ((9 * (S (235 + (k + 1)))) / 10)), (4, .int (nI k)), (3, .int (nI (k + 1))), (2, .int 0), (0, .ref (am 0)), (1, .int (nI k))]) hx hb d_M_passes_80 hl (by decide) rfl (fun ls hl => ?_)
      refine lv_aload_n hx hb d_M_passes_82 rfl (lv_at hl 4 rfl) ?_
      refine q_get 0 1 i_M rfl hx hb hts hown hE hP rfl (by decide) x_937 rfl d_M_passes_83 ?_
      refine lv_sipush (v := 235) hx hb d_M_passes_86 (by decide) ?_
      refine lv_iload_n hx hb d_M_passes_89 rfl (lv_at hl 2 rfl) ?_
      refine q_iadd (v := nI (235 + (k + 1))) hx hb d_M_passes_90 (nI_add 235 (k + 1)) ?_
      refine lv_lload hx hb d_M_passes_91 (lv_at hl 0 rfl) ?_
      refine lv_lconst (v := 1) hx hb d_M_passes_93 (by decide) ?_
      refine W.lcmp hx hb d_M_passes_94 ?_
      refine q_cmp_ge (tgt := 102) hx hb d_M_passes_95 (by decide) (fun h_95 => ?_) (fun h_95 => ?_)
      · refine lv_lload hx hb d_M_passes_102 (lv_at hl 0 rfl) ?_
        obtain ⟨s_2, es_2⟩ : ∃ g9 : Nat → Int64, g9 = vp_updL S (235 + (k + 1)) ((9 * (S (235 + (k + 1)))) / 10) := ⟨_, rfl⟩
        refine q_last (k := 235 + (k + 1)) 1 (ws1 := [((am 0), .inr (8, [.int th, .ref (am 1), .ref (am 2), .ref (am 3), .ref (am 4), .ref (am 5), .long bu, .long he, .ref (am 6), .ref (am 7)])), ((am 1), .inl (ct 1, 334, .inr (.inl s_2))), ((am 6), .inl (ct 1, 9, .inr (.inl Bf)))]) es_2 hx hb hE hP hD hS rfl rfl (by omega) (by decide) rfl d_M_passes_104 (fun H locs hP hD hS => ?_)
        refine lv_aload_n hx hb d_M_passes_105 rfl (lv_at hl 4 rfl) ?_
        refine q_get 0 1 i_M rfl hx hb hts hown hE hP rfl (by decide) x_937 rfl d_M_passes_106 ?_
        refine lv_sipush (v := 227) hx hb d_M_passes_109 (by decide) ?_
        refine lv_iload hx hb d_M_passes_112 (lv_at hl 1 rfl) ?_
        refine q_iadd (v := nI (227 + k)) hx hb d_M_passes_114 (nI_add 227 k) ?_
        refine q_lald (k := 227 + k) 1 hx hb hE hP rfl rfl (by omega) (by decide) d_M_passes_115 ?_
        refine q_topl (v := S (227 + k)) (by simp (disch := omega) only [es_2, pk_uLn, pk_uLs, pk_us, pk_un]) ?_
        refine lv_lstore (lv' := [(5, .long (S (227 + k))), (4, .int (nI k)), (3, .int (nI (k + 1))), (2, .int 0), (0, .ref (am 0)), (1, .int (nI k))]) hx hb d_M_passes_116 hl (by decide) rfl (fun ls hl => ?_)
        refine lv_aload_n hx hb d_M_passes_118 rfl (lv_at hl 4 rfl) ?_
        refine q_get 0 1 i_M rfl hx hb hts hown hE hP rfl (by decide) x_937 rfl d_M_passes_119 ?_
        refine lv_sipush (v := 227) hx hb d_M_passes_122 (by decide) ?_
        refine lv_iload hx hb d_M_passes_125 (lv_at hl 1 rfl) ?_
        refine q_iadd (v := nI (227 + k)) hx hb d_M_passes_127 (nI_add 227 k) ?_
        refine lv_aload_n hx hb d_M_passes_128 rfl (lv_at hl 4 rfl) ?_
        refine q_get 0 1 i_M rfl hx hb hts hown hE hP rfl (by decide) x_937 rfl d_M_passes_129 ?_
        refine lv_sipush (v := 211) hx hb d_M_passes_132 (by decide) ?_
        refine lv_iload hx hb d_M_passes_135 (lv_at hl 1 rfl) ?_
        refine q_iadd (v := nI (211 + k)) hx hb d_M_passes_137 (nI_add 211 k) ?_
        refine q_lald (k := 211 + k) 1 hx hb hE hP rfl rfl (by omega) (by decide) d_M_passes_138 ?_
        refine q_topl (v := S (211 + k)) (by simp (disch := omega) only [es_2, pk_uLn, pk_uLs, pk_us, pk_un]) ?_
        refine lv_lconst (v := 1) hx hb d_M_passes_139 (by decide) ?_
        refine W.lcmp hx hb d_M_passes_140 ?_
        refine q_cmp_ne (tgt := 164) hx hb d_M_passes_141 (by decide) (fun h_141 => absurd h_59 h_141) (fun h_141 => ?_)
        refine lv_lload hx hb d_M_passes_144 (lv_at hl 0 rfl) ?_
        refine lv_aload_n hx hb d_M_passes_146 rfl (lv_at hl 4 rfl) ?_
        refine q_get 0 1 i_M rfl hx hb hts hown hE hP rfl (by decide) x_937 rfl d_M_passes_147 ?_
        refine lv_sipush (v := 227) hx hb d_M_passes_150 (by decide) ?_
        refine lv_iload_n hx hb d_M_passes_153 rfl (lv_at hl 2 rfl) ?_
        refine q_iadd (v := nI (227 + (k + 1))) hx hb d_M_passes_154 (nI_add 227 (k + 1)) ?_
        refine q_lald (k := 227 + (k + 1)) 1 hx hb hE hP rfl rfl (by omega) (by decide) d_M_passes_155 ?_
        refine q_topl (v := S (227 + (k + 1))) (by simp (disch := omega) only [es_2, pk_uLn, pk_uLs, pk_us, pk_un]) ?_
        refine lv_ldc2 (v := 10) hx hb hown (hts _ (List.mem_cons_of_mem _ x_1168)) d_M_passes_156 ?_
        refine lv_ldiv hx hb d_M_passes_159 (by decide) ?_
        refine lv_ladd hx hb d_M_passes_160 ?_
        refine lv_goto (tgt := 170) hx hb d_M_passes_161 (by decide) ?_
        refine cRS (As := [.long ((S (227 + k)) + ((S (227 + (k + 1))) / 10))]) (rest := [.int (nI (227 + k)), .ref (am 1)]) K_M_held x_1174 hx hb hml hown hts hE hV hS (c_M_held l D ct st ((S (227 + k)) + ((S (227 + (k + 1))) / 10))) (fun k q h => by simp at h) rfl hl.1 rfl (Nat.le_of_ble_eq_true rfl) d_M_passes_170 (Nat.le_of_ble_eq_true rfl) (Nat.le_of_ble_eq_true rfl) ⟨Nat.le_of_ble_eq_true rfl, Nat.le_of_ble_eq_true rfl⟩ ?_
        obtain ⟨s_3, es_3⟩ : ∃ g9 : Nat → Int64, g9 = vp_updL s_2 (227 + k) (w_held ((S (227 + k)) + ((S (227 + (k + 1))) / 10))) := ⟨_, rfl⟩
        refine q_last (k := 227 + k) 1 (ws1 := [((am 0), .inr (8, [.int th, .ref (am 1), .ref (am 2), .ref (am 3), .ref (am 4), .ref (am 5), .long bu, .long he, .ref (am 6), .ref (am 7)])), ((am 1), .inl (ct 1, 334, .inr (.inl s_3))), ((am 6), .inl (ct 1, 9, .inr (.inl Bf)))]) es_3 hx hb hE hP hD hS rfl rfl (by omega) (by decide) rfl d_M_passes_173 (fun H locs hP hD hS => ?_)
        refine lv_aload_n hx hb d_M_passes_174 rfl (lv_at hl 4 rfl) ?_
        refine lv_iload_n hx hb d_M_passes_175 rfl (lv_at hl 5 rfl) ?_
        refine cWV (As := [.int (nI k)]) (rest := []) (q9 := 0) (ci := 8) K_M_turns x_1164 hx hb hml hown hts hE hV hS (c_M_turns l D ct st am th bu he s_3 Bf k (by omega) _) hP hD hA [0, 1, 2] [] (wr := []) rfl rfl (by decide) (by decide) (by decide) rfl hP rfl rfl hl.1 rfl (Nat.le_of_ble_eq_true rfl) d_M_passes_176 (Nat.le_of_ble_eq_true rfl) (Nat.le_of_ble_eq_true rfl) ⟨Nat.le_of_ble_eq_true rfl, Nat.le_of_ble_eq_true rfl⟩ (fun v W1 H locs hpost hP hD hS => ?_)
        obtain ⟨s1_2, before1_2, rfl, rfl, hq_176⟩ := hpost
        have hP : va_P D classes [((am 0), .inr (8, [.int th, .ref (am 1), .ref (am 2), .ref (am 3), .ref (am 4), .ref (am 5), .long bu, .long he, .ref (am 6), .ref (am 7)])), ((am 1), .inl (ct 1, 334, .inr (.inl s1_2))), ((am 6), .inl (ct 1, 9, .inr (.inl before1_2)))] H := hP
        have hD : va_D A [((am 0), .inr (8, [.int th, .ref (am 1), .ref (am 2), .ref (am 3), .ref (am 4), .ref (am 5), .long bu, .long he, .ref (am 6), .ref (am 7)])), ((am 1), .inl (ct 1, 334, .inr (.inl s1_2))), ((am 6), .inl (ct 1, 9, .inr (.inl before1_2)))] := hD
        refine lv_iload_n hx hb d_M_passes_179 rfl (lv_at hl 5 rfl) ?_
        refine lv_iconst (v := 1) hx hb d_M_passes_180 (by decide) ?_
        refine q_iadd (v := nI (k + 1)) hx hb d_M_passes_181 (nI_add k 1) ?_
        exact rW_i hx hb hr hlk hAe hS hP hD (Nat.le_of_ble_eq_true rfl) (Nat.le_of_ble_eq_true rfl) d_M_passes_182 ⟨s1_2, before1_2, k + 1, rfl, rfl, by
              have hU : ∀ a j, a < 5 → j < 8 → fS s_3 Bf a j = if a = 3 ∧ j = k + 1 then (((9 * (S (235 + (k + 1)))) / 10) : Int64).toInt else if a = 2 ∧ j = k then (w_held (S (227 + k) + S (227 + (k + 1)) / 10)).toInt else fS S Bf a j := by
                intro a j ha hj
                rcases a5 ha with rfl | rfl | rfl | rfl | rfl
                · rw [fS0, fS0, if_neg (by omega), if_neg (by omega)]; simp (disch := omega) only [es_3, es_2, pk_uLn, pk_uLs, pk_us, pk_un]
                · rw [fS1, fS1, if_neg (by omega), if_neg (by omega)]; simp (disch := omega) only [es_3, es_2, pk_uLn, pk_uLs, pk_us, pk_un]
                · rw [fS2, fS2, if_neg (by omega)]
                  by_cases q9 : j = k
                  · rw [if_pos ⟨rfl, q9⟩, q9]; simp (disch := omega) only [es_3, es_2, pk_uLn, pk_uLs, pk_us, pk_un]
                  · rw [if_neg (by omega)]; simp (disch := omega) only [es_3, es_2, pk_uLn, pk_uLs, pk_us, pk_un]
                · rw [fS3, fS3]
                  by_cases q9 : j = k + 1
                  · rw [if_pos ⟨rfl, q9⟩, q9]; simp (disch := omega) only [es_3, es_2, pk_uLn, pk_uLs, pk_us, pk_un]
                  · rw [if_neg (by omega), if_neg (by omega)]; simp (disch := omega) only [es_3, es_2, pk_uLn, pk_uLs, pk_us, pk_un]
                · rw [fS4, fS4, if_neg (by omega), if_neg (by omega)]
              have key := pas hs hd (x := k + 1) (o := k) (by rw [fS0]; first | exact Or.inl ⟨eq0.mp h_12, rfl, rfl⟩ | exact Or.inr ⟨fun z => h_12 (eq0.mpr z), rfl, rfl⟩) (st_b (z := S (211 + k)) (fS0 S Bf _).symm h_59 (y := S (235 + (k + 1))) (fS3 S Bf _).symm q3 h_95) (sp_a (z := S (211 + k)) (fS0 S Bf _).symm h_59 (fS2 S Bf _).symm (fS2 S Bf _).symm p2 q2) hU hq_176.1 hk hn8
              exact ⟨key.2.1.symm, by rw [key.1]; exact hq_176.2.1.trans ((show s_3 210 = S 210 by simp (disch := omega) only [es_3, es_2, pk_uLn, pk_uLs, pk_us, pk_un]).trans hcnt), by rw [key.1]; exact key.2.2, hq_176.2.2.trans (fun j hj => by simp (disch := omega) only [es_3, es_2, pk_uLn, pk_uLs, pk_us, pk_un])⟩⟩
      · refine lv_lconst (v := 1) hx hb d_M_passes_98 (by decide) ?_
        refine lv_goto (tgt := 104) hx hb d_M_passes_99 (by decide) ?_
        obtain ⟨s_4, es_4⟩ : ∃ g9 : Nat → Int64, g9 = vp_updL S (235 + (k + 1)) 1 := ⟨_, rfl⟩
        refine q_last (k := 235 + (k + 1)) 1 (ws1 := [((am 0), .inr (8, [.int th, .ref (am 1), .ref (am 2), .ref (am 3), .ref (am 4), .ref (am 5), .long bu, .long he, .ref (am 6), .ref (am 7)])), ((am 1), .inl (ct 1, 334, .inr (.inl s_4))), ((am 6), .inl (ct 1, 9, .inr (.inl Bf)))]) es_4 hx hb hE hP hD hS rfl rfl (by omega) (by decide) rfl d_M_passes_104 (fun H locs hP hD hS => ?_)
        refine lv_aload_n hx hb d_M_passes_105 rfl (lv_at hl 4 rfl) ?_
        refine q_get 0 1 i_M rfl hx hb hts hown hE hP rfl (by decide) x_937 rfl d_M_passes_106 ?_
        refine lv_sipush (v := 227) hx hb d_M_passes_109 (by decide) ?_
        refine lv_iload hx hb d_M_passes_112 (lv_at hl 1 rfl) ?_
        refine q_iadd (v := nI (227 + k)) hx hb d_M_passes_114 (nI_add 227 k) ?_
        refine q_lald (k := 227 + k) 1 hx hb hE hP rfl rfl (by omega) (by decide) d_M_passes_115 ?_
        refine q_topl (v := S (227 + k)) (by simp (disch := omega) only [es_4, pk_uLn, pk_uLs, pk_us, pk_un]) ?_
        refine lv_lstore (lv' := [(5, .long (S (227 + k))), (4, .int (nI k)), (3, .int (nI (k + 1))), (2, .int 0), (0, .ref (am 0)), (1, .int (nI k))]) hx hb d_M_passes_116 hl (by decide) rfl (fun ls hl => ?_)
        refine lv_aload_n hx hb d_M_passes_118 rfl (lv_at hl 4 rfl) ?_
        refine q_get 0 1 i_M rfl hx hb hts hown hE hP rfl (by decide) x_937 rfl d_M_passes_119 ?_
        refine lv_sipush (v := 227) hx hb d_M_passes_122 (by decide) ?_
        refine lv_iload hx hb d_M_passes_125 (lv_at hl 1 rfl) ?_
        refine q_iadd (v := nI (227 + k)) hx hb d_M_passes_127 (nI_add 227 k) ?_
        refine lv_aload_n hx hb d_M_passes_128 rfl (lv_at hl 4 rfl) ?_
        refine q_get 0 1 i_M rfl hx hb hts hown hE hP rfl (by decide) x_937 rfl d_M_passes_129 ?_
        refine lv_sipush (v := 211) hx hb d_M_passes_132 (by decide) ?_
        refine lv_iload hx hb d_M_passes_135 (lv_at hl 1 rfl) ?_
        refine q_iadd (v := nI (211 + k)) hx hb d_M_passes_137 (nI_add 211 k) ?_
        refine q_lald (k := 211 + k) 1 hx hb hE hP rfl rfl (by omega) (by decide) d_M_passes_138 ?_
        refine q_topl (v := S (211 + k)) (by simp (disch := omega) only [es_4, pk_uLn, pk_uLs, pk_us, pk_un]) ?_
        refine lv_lconst (v := 1) hx hb d_M_passes_139 (by decide) ?_
        refine W.lcmp hx hb d_M_passes_140 ?_
        refine q_cmp_ne (tgt := 164) hx hb d_M_passes_141 (by decide) (fun h_141 => absurd h_59 h_141) (fun h_141 => ?_)
        refine lv_lload hx hb d_M_passes_144 (lv_at hl 0 rfl) ?_
        refine lv_aload_n hx hb d_M_passes_146 rfl (lv_at hl 4 rfl) ?_
        refine q_get 0 1 i_M rfl hx hb hts hown hE hP rfl (by decide) x_937 rfl d_M_passes_147 ?_
        refine lv_sipush (v := 227) hx hb d_M_passes_150 (by decide) ?_
        refine lv_iload_n hx hb d_M_passes_153 rfl (lv_at hl 2 rfl) ?_
        refine q_iadd (v := nI (227 + (k + 1))) hx hb d_M_passes_154 (nI_add 227 (k + 1)) ?_
        refine q_lald (k := 227 + (k + 1)) 1 hx hb hE hP rfl rfl (by omega) (by decide) d_M_passes_155 ?_
        refine q_topl (v := S (227 + (k + 1))) (by simp (disch := omega) only [es_4, pk_uLn, pk_uLs, pk_us, pk_un]) ?_
        refine lv_ldc2 (v := 10) hx hb hown (hts _ (List.mem_cons_of_mem _ x_1168)) d_M_passes_156 ?_
        refine lv_ldiv hx hb d_M_passes_159 (by decide) ?_
        refine lv_ladd hx hb d_M_passes_160 ?_
        refine lv_goto (tgt := 170) hx hb d_M_passes_161 (by decide) ?_
        refine cRS (As := [.long ((S (227 + k)) + ((S (227 + (k + 1))) / 10))]) (rest := [.int (nI (227 + k)), .ref (am 1)]) K_M_held x_1174 hx hb hml hown hts hE hV hS (c_M_held l D ct st ((S (227 + k)) + ((S (227 + (k + 1))) / 10))) (fun k q h => by simp at h) rfl hl.1 rfl (Nat.le_of_ble_eq_true rfl) d_M_passes_170 (Nat.le_of_ble_eq_true rfl) (Nat.le_of_ble_eq_true rfl) ⟨Nat.le_of_ble_eq_true rfl, Nat.le_of_ble_eq_true rfl⟩ ?_
        obtain ⟨s_5, es_5⟩ : ∃ g9 : Nat → Int64, g9 = vp_updL s_4 (227 + k) (w_held ((S (227 + k)) + ((S (227 + (k + 1))) / 10))) := ⟨_, rfl⟩
        refine q_last (k := 227 + k) 1 (ws1 := [((am 0), .inr (8, [.int th, .ref (am 1), .ref (am 2), .ref (am 3), .ref (am 4), .ref (am 5), .long bu, .long he, .ref (am 6), .ref (am 7)])), ((am 1), .inl (ct 1, 334, .inr (.inl s_5))), ((am 6), .inl (ct 1, 9, .inr (.inl Bf)))]) es_5 hx hb hE hP hD hS rfl rfl (by omega) (by decide) rfl d_M_passes_173 (fun H locs hP hD hS => ?_)
        refine lv_aload_n hx hb d_M_passes_174 rfl (lv_at hl 4 rfl) ?_
        refine lv_iload_n hx hb d_M_passes_175 rfl (lv_at hl 5 rfl) ?_
        refine cWV (As := [.int (nI k)]) (rest := []) (q9 := 0) (ci := 8) K_M_turns x_1164 hx hb hml hown hts hE hV hS (c_M_turns l D ct st am th bu he s_5 Bf k (by omega) _) hP hD hA [0, 1, 2] [] (wr := []) rfl rfl (by decide) (by decide) (by decide) rfl hP rfl rfl hl.1 rfl (Nat.le_of_ble_eq_true rfl) d_M_passes_176 (Nat.le_of_ble_eq_true rfl) (Nat.le_of_ble_eq_true rfl) ⟨Nat.le_of_ble_eq_true rfl, Nat.le_of_ble_eq_true rfl⟩ (fun v W1 H locs hpost hP hD hS => ?_)
        obtain ⟨s1_3, before1_3, rfl, rfl, hq_176⟩ := hpost
        have hP : va_P D classes [((am 0), .inr (8, [.int th, .ref (am 1), .ref (am 2), .ref (am 3), .ref (am 4), .ref (am 5), .long bu, .long he, .ref (am 6), .ref (am 7)])), ((am 1), .inl (ct 1, 334, .inr (.inl s1_3))), ((am 6), .inl (ct 1, 9, .inr (.inl before1_3)))] H := hP
        have hD : va_D A [((am 0), .inr (8, [.int th, .ref (am 1), .ref (am 2), .ref (am 3), .ref (am 4), .ref (am 5), .long bu, .long he, .ref (am 6), .ref (am 7)])), ((am 1), .inl (ct 1, 334, .inr (.inl s1_3))), ((am 6), .inl (ct 1, 9, .inr (.inl before1_3)))] := hD
        refine lv_iload_n hx hb d_M_passes_179 rfl (lv_at hl 5 rfl) ?_
        refine lv_iconst (v := 1) hx hb d_M_passes_180 (by decide) ?_
        refine q_iadd (v := nI (k + 1)) hx hb d_M_passes_181 (nI_add k 1) ?_
        exact rW_i hx hb hr hlk hAe hS hP hD (Nat.le_of_ble_eq_true rfl) (Nat.le_of_ble_eq_true rfl) d_M_passes_182 ⟨s1_3, before1_3, k + 1, rfl, rfl, by
              have hU : ∀ a j, a < 5 → j < 8 → fS s_5 Bf a j = if a = 3 ∧ j = k + 1 then (1 : Int64).toInt else if a = 2 ∧ j = k then (w_held (S (227 + k) + S (227 + (k + 1)) / 10)).toInt else fS S Bf a j := by
                intro a j ha hj
                rcases a5 ha with rfl | rfl | rfl | rfl | rfl
                · rw [fS0, fS0, if_neg (by omega), if_neg (by omega)]; simp (disch := omega) only [es_5, es_4, pk_uLn, pk_uLs, pk_us, pk_un]
                · rw [fS1, fS1, if_neg (by omega), if_neg (by omega)]; simp (disch := omega) only [es_5, es_4, pk_uLn, pk_uLs, pk_us, pk_un]
                · rw [fS2, fS2, if_neg (by omega)]
                  by_cases q9 : j = k
                  · rw [if_pos ⟨rfl, q9⟩, q9]; simp (disch := omega) only [es_5, es_4, pk_uLn, pk_uLs, pk_us, pk_un]
                  · rw [if_neg (by omega)]; simp (disch := omega) only [es_5, es_4, pk_uLn, pk_uLs, pk_us, pk_un]
                · rw [fS3, fS3]
                  by_cases q9 : j = k + 1
                  · rw [if_pos ⟨rfl, q9⟩, q9]; simp (disch := omega) only [es_5, es_4, pk_uLn, pk_uLs, pk_us, pk_un]
                  · rw [if_neg (by omega), if_neg (by omega)]; simp (disch := omega) only [es_5, es_4, pk_uLn, pk_uLs, pk_us, pk_un]
                · rw [fS4, fS4, if_neg (by omega), if_neg (by omega)]
              have key := pas hs hd (x := k + 1) (o := k) (by rw [fS0]; first | exact Or.inl ⟨eq0.mp h_12, rfl, rfl⟩ | exact Or.inr ⟨fun z => h_12 (eq0.mpr z), rfl, rfl⟩) (st_c (z := S (211 + k)) (fS0 S Bf _).symm h_59 (y := S (235 + (k + 1))) (fS3 S Bf _).symm q3 h_95) (sp_a (z := S (211 + k)) (fS0 S Bf _).symm h_59 (fS2 S Bf _).symm (fS2 S Bf _).symm p2 q2) hU hq_176.1 hk hn8
              exact ⟨key.2.1.symm, by rw [key.1]; exact hq_176.2.1.trans ((show s_5 210 = S 210 by simp (disch := omega) only [es_5, es_4, pk_uLn, pk_uLs, pk_us, pk_un]).trans hcnt), by rw [key.1]; exact key.2.2, hq_176.2.2.trans (fun j hj => by simp (disch := omega) only [es_5, es_4, pk_uLn, pk_uLs, pk_us, pk_un])⟩⟩
  · refine lv_iconst (v := 1) hx hb d_M_passes_15 (by decide) ?_
    refine lv_goto (tgt := 20) hx hb d_M_passes_16 (by decide) ?_
    refine lv_istore_n (lv' := [(2, .int 1), (0, .ref (am 0)), (1, .int (nI k))]) hx hb d_M_passes_20 rfl hl (by decide) rfl (fun ls hl => ?_)
    refine lv_iload_n hx hb d_M_passes_21 rfl (lv_at hl 0 rfl) ?_
    refine lv_if_eq (tgt := 29) hx hb d_M_passes_22 (by decide) (fun h => absurd h (by decide)) (fun _ => ?_)
    refine lv_iload_n hx hb d_M_passes_25 rfl (lv_at hl 2 rfl) ?_
    refine lv_goto (tgt := 32) hx hb d_M_passes_26 (by decide) ?_
    refine lv_istore_n (lv' := [(3, .int (nI k)), (2, .int 1), (0, .ref (am 0)), (1, .int (nI k))]) hx hb d_M_passes_32 rfl hl (by decide) rfl (fun ls hl => ?_)
    refine lv_iload_n hx hb d_M_passes_33 rfl (lv_at hl 1 rfl) ?_
    refine lv_if_eq (tgt := 43) hx hb d_M_passes_34 (by decide) (fun h => absurd h (by decide)) (fun _ => ?_)
    refine lv_iload_n hx hb d_M_passes_37 rfl (lv_at hl 3 rfl) ?_
    refine lv_iconst (v := 1) hx hb d_M_passes_38 (by decide) ?_
    refine q_iadd (v := nI (k + 1)) hx hb d_M_passes_39 (nI_add k 1) ?_
    refine lv_goto (tgt := 44) hx hb d_M_passes_40 (by decide) ?_
    refine lv_istore (lv' := [(4, .int (nI (k + 1))), (3, .int (nI k)), (2, .int 1), (0, .ref (am 0)), (1, .int (nI k))]) hx hb d_M_passes_44 hl (by decide) rfl (fun ls hl => ?_)
    refine lv_aload_n hx hb d_M_passes_46 rfl (lv_at hl 3 rfl) ?_
    refine q_get 0 1 i_M rfl hx hb hts hown hE hP rfl (by decide) x_937 rfl d_M_passes_47 ?_
    refine lv_sipush (v := 211) hx hb d_M_passes_50 (by decide) ?_
    refine lv_iload hx hb d_M_passes_53 (lv_at hl 0 rfl) ?_
    refine q_iadd (v := nI (211 + (k + 1))) hx hb d_M_passes_55 (nI_add 211 (k + 1)) ?_
    refine q_lald (k := 211 + (k + 1)) 1 hx hb hE hP rfl rfl (by omega) (by decide) d_M_passes_56 ?_
    refine lv_lconst (v := 1) hx hb d_M_passes_57 (by decide) ?_
    refine W.lcmp hx hb d_M_passes_58 ?_
    refine q_cmp_ne (tgt := 105) hx hb d_M_passes_59 (by decide) (fun h_59 => ?_) (fun h_59 => ?_)
    · refine lv_aload_n hx hb d_M_passes_105 rfl (lv_at hl 3 rfl) ?_
      refine q_get 0 1 i_M rfl hx hb hts hown hE hP rfl (by decide) x_937 rfl d_M_passes_106 ?_
      refine lv_sipush (v := 227) hx hb d_M_passes_109 (by decide) ?_
      refine lv_iload hx hb d_M_passes_112 (lv_at hl 0 rfl) ?_
      refine q_iadd (v := nI (227 + (k + 1))) hx hb d_M_passes_114 (nI_add 227 (k + 1)) ?_
      refine q_lald (k := 227 + (k + 1)) 1 hx hb hE hP rfl rfl (by omega) (by decide) d_M_passes_115 ?_
      refine q_topl (v := S (227 + (k + 1))) (rfl) ?_
      refine lv_lstore (lv' := [(5, .long (S (227 + (k + 1)))), (4, .int (nI (k + 1))), (3, .int (nI k)), (2, .int 1), (0, .ref (am 0)), (1, .int (nI k))]) hx hb d_M_passes_116 hl (by decide) rfl (fun ls hl => ?_)
      refine lv_aload_n hx hb d_M_passes_118 rfl (lv_at hl 4 rfl) ?_
      refine q_get 0 1 i_M rfl hx hb hts hown hE hP rfl (by decide) x_937 rfl d_M_passes_119 ?_
      refine lv_sipush (v := 227) hx hb d_M_passes_122 (by decide) ?_
      refine lv_iload hx hb d_M_passes_125 (lv_at hl 1 rfl) ?_
      refine q_iadd (v := nI (227 + (k + 1))) hx hb d_M_passes_127 (nI_add 227 (k + 1)) ?_
      refine lv_aload_n hx hb d_M_passes_128 rfl (lv_at hl 4 rfl) ?_
      refine q_get 0 1 i_M rfl hx hb hts hown hE hP rfl (by decide) x_937 rfl d_M_passes_129 ?_
      refine lv_sipush (v := 211) hx hb d_M_passes_132 (by decide) ?_
      refine lv_iload hx hb d_M_passes_135 (lv_at hl 1 rfl) ?_
      refine q_iadd (v := nI (211 + (k + 1))) hx hb d_M_passes_137 (nI_add 211 (k + 1)) ?_
      refine q_lald (k := 211 + (k + 1)) 1 hx hb hE hP rfl rfl (by omega) (by decide) d_M_passes_138 ?_
      refine q_topl (v := S (211 + (k + 1))) (rfl) ?_
      refine lv_lconst (v := 1) hx hb d_M_passes_139 (by decide) ?_
      refine W.lcmp hx hb d_M_passes_140 ?_
      refine q_cmp_ne (tgt := 164) hx hb d_M_passes_141 (by decide) (fun h_141 => ?_) (fun h_141 => absurd h_141 h_59)
      refine lv_ldc2 (v := 2) hx hb hown (hts _ (List.mem_cons_of_mem _ x_976)) d_M_passes_164 ?_
      refine lv_lload hx hb d_M_passes_167 (lv_at hl 0 rfl) ?_
      refine lv_lmul hx hb d_M_passes_169 ?_
      refine cRS (As := [.long (2 * (S (227 + (k + 1))))]) (rest := [.int (nI (227 + (k + 1))), .ref (am 1)]) K_M_held x_1174 hx hb hml hown hts hE hV hS (c_M_held l D ct st (2 * (S (227 + (k + 1))))) (fun k q h => by simp at h) rfl hl.1 rfl (Nat.le_of_ble_eq_true rfl) d_M_passes_170 (Nat.le_of_ble_eq_true rfl) (Nat.le_of_ble_eq_true rfl) ⟨Nat.le_of_ble_eq_true rfl, Nat.le_of_ble_eq_true rfl⟩ ?_
      obtain ⟨s_6, es_6⟩ : ∃ g9 : Nat → Int64, g9 = vp_updL S (227 + (k + 1)) (w_held (2 * (S (227 + (k + 1))))) := ⟨_, rfl⟩
      refine q_last (k := 227 + (k + 1)) 1 (ws1 := [((am 0), .inr (8, [.int th, .ref (am 1), .ref (am 2), .ref (am 3), .ref (am 4), .ref (am 5), .long bu, .long he, .ref (am 6), .ref (am 7)])), ((am 1), .inl (ct 1, 334, .inr (.inl s_6))), ((am 6), .inl (ct 1, 9, .inr (.inl Bf)))]) es_6 hx hb hE hP hD hS rfl rfl (by omega) (by decide) rfl d_M_passes_173 (fun H locs hP hD hS => ?_)
      refine lv_aload_n hx hb d_M_passes_174 rfl (lv_at hl 4 rfl) ?_
      refine lv_iload_n hx hb d_M_passes_175 rfl (lv_at hl 5 rfl) ?_
      refine cWV (As := [.int (nI k)]) (rest := []) (q9 := 0) (ci := 8) K_M_turns x_1164 hx hb hml hown hts hE hV hS (c_M_turns l D ct st am th bu he s_6 Bf k (by omega) _) hP hD hA [0, 1, 2] [] (wr := []) rfl rfl (by decide) (by decide) (by decide) rfl hP rfl rfl hl.1 rfl (Nat.le_of_ble_eq_true rfl) d_M_passes_176 (Nat.le_of_ble_eq_true rfl) (Nat.le_of_ble_eq_true rfl) ⟨Nat.le_of_ble_eq_true rfl, Nat.le_of_ble_eq_true rfl⟩ (fun v W1 H locs hpost hP hD hS => ?_)
      obtain ⟨s1_4, before1_4, rfl, rfl, hq_176⟩ := hpost
      have hP : va_P D classes [((am 0), .inr (8, [.int th, .ref (am 1), .ref (am 2), .ref (am 3), .ref (am 4), .ref (am 5), .long bu, .long he, .ref (am 6), .ref (am 7)])), ((am 1), .inl (ct 1, 334, .inr (.inl s1_4))), ((am 6), .inl (ct 1, 9, .inr (.inl before1_4)))] H := hP
      have hD : va_D A [((am 0), .inr (8, [.int th, .ref (am 1), .ref (am 2), .ref (am 3), .ref (am 4), .ref (am 5), .long bu, .long he, .ref (am 6), .ref (am 7)])), ((am 1), .inl (ct 1, 334, .inr (.inl s1_4))), ((am 6), .inl (ct 1, 9, .inr (.inl before1_4)))] := hD
      refine lv_iload_n hx hb d_M_passes_179 rfl (lv_at hl 5 rfl) ?_
      refine lv_iconst (v := 1) hx hb d_M_passes_180 (by decide) ?_
      refine q_iadd (v := nI (k + 1)) hx hb d_M_passes_181 (nI_add k 1) ?_
      exact rW_i hx hb hr hlk hAe hS hP hD (Nat.le_of_ble_eq_true rfl) (Nat.le_of_ble_eq_true rfl) d_M_passes_182 ⟨s1_4, before1_4, k + 1, rfl, rfl, by
              have hU : ∀ a j, a < 5 → j < 8 → fS s_6 Bf a j = if a = 3 ∧ j = k then (S (235 + k) : Int64).toInt else if a = 2 ∧ j = k + 1 then (w_held (2 * S (227 + (k + 1)))).toInt else fS S Bf a j := by
                intro a j ha hj
                rcases a5 ha with rfl | rfl | rfl | rfl | rfl
                · rw [fS0, fS0, if_neg (by omega), if_neg (by omega)]; simp (disch := omega) only [es_6, pk_uLn, pk_uLs, pk_us, pk_un]
                · rw [fS1, fS1, if_neg (by omega), if_neg (by omega)]; simp (disch := omega) only [es_6, pk_uLn, pk_uLs, pk_us, pk_un]
                · rw [fS2, fS2, if_neg (by omega)]
                  by_cases q9 : j = k + 1
                  · rw [if_pos ⟨rfl, q9⟩, q9]; simp (disch := omega) only [es_6, pk_uLn, pk_uLs, pk_us, pk_un]
                  · rw [if_neg (by omega)]; simp (disch := omega) only [es_6, pk_uLn, pk_uLs, pk_us, pk_un]
                · rw [fS3, fS3]
                  by_cases q9 : j = k
                  · rw [if_pos ⟨rfl, q9⟩, q9]; simp (disch := omega) only [es_6, pk_uLn, pk_uLs, pk_us, pk_un]
                  · rw [if_neg (by omega), if_neg (by omega)]; simp (disch := omega) only [es_6, pk_uLn, pk_uLs, pk_us, pk_un]
                · rw [fS4, fS4, if_neg (by omega), if_neg (by omega)]
              have key := pas hs hd (x := k) (o := k + 1) (by rw [fS0]; first | exact Or.inl ⟨eq0.mp h_12, rfl, rfl⟩ | exact Or.inr ⟨fun z => h_12 (eq0.mpr z), rfl, rfl⟩) (st_a (z := S (211 + (k + 1))) (fS0 S Bf _).symm h_59 (fS3 S Bf _).symm) (sp_b (z := S (211 + (k + 1))) (fS0 S Bf _).symm h_59 (fS2 S Bf _).symm q2) hU hq_176.1 hk hn8
              exact ⟨key.2.1.symm, by rw [key.1]; exact hq_176.2.1.trans ((show s_6 210 = S 210 by simp (disch := omega) only [es_6, pk_uLn, pk_uLs, pk_us, pk_un]).trans hcnt), by rw [key.1]; exact key.2.2, hq_176.2.2.trans (fun j hj => by simp (disch := omega) only [es_6, pk_uLn, pk_uLs, pk_us, pk_un])⟩⟩
    · refine lv_ldc2 (v := 9) hx hb hown (hts _ (List.mem_cons_of_mem _ x_1173)) d_M_passes_62 ?_
      refine lv_aload_n hx hb d_M_passes_65 rfl (lv_at hl 3 rfl) ?_
      refine q_get 0 1 i_M rfl hx hb hts hown hE hP rfl (by decide) x_937 rfl d_M_passes_66 ?_
      refine lv_sipush (v := 235) hx hb d_M_passes_69 (by decide) ?_
      refine lv_iload_n hx hb d_M_passes_72 rfl (lv_at hl 1 rfl) ?_
      refine q_iadd (v := nI (235 + k)) hx hb d_M_passes_73 (nI_add 235 k) ?_
      refine q_lald (k := 235 + k) 1 hx hb hE hP rfl rfl (by omega) (by decide) d_M_passes_74 ?_
      refine lv_lmul hx hb d_M_passes_75 ?_
      refine lv_ldc2 (v := 10) hx hb hown (hts _ (List.mem_cons_of_mem _ x_1168)) d_M_passes_76 ?_
      refine lv_ldiv hx hb d_M_passes_79 (by decide) ?_
      refine lv_lstore (lv' := [(5, .long ((9 * (S (235 + k))) / 10)), (4, .int (nI (k + 1))), (3, .int (nI k)), (2, .int 1), (0, .ref (am 0)), (1, .int (nI k))]) hx hb d_M_passes_80 hl (by decide) rfl (fun ls hl => ?_)
      refine lv_aload_n hx hb d_M_passes_82 rfl (lv_at hl 4 rfl) ?_
      refine q_get 0 1 i_M rfl hx hb hts hown hE hP rfl (by decide) x_937 rfl d_M_passes_83 ?_
      refine lv_sipush (v := 235) hx hb d_M_passes_86 (by decide) ?_
      refine lv_iload_n hx hb d_M_passes_89 rfl (lv_at hl 2 rfl) ?_
      refine q_iadd (v := nI (235 + k)) hx hb d_M_passes_90 (nI_add 235 k) ?_
      refine lv_lload hx hb d_M_passes_91 (lv_at hl 0 rfl) ?_
      refine lv_lconst (v := 1) hx hb d_M_passes_93 (by decide) ?_
      refine W.lcmp hx hb d_M_passes_94 ?_
      refine q_cmp_ge (tgt := 102) hx hb d_M_passes_95 (by decide) (fun h_95 => ?_) (fun h_95 => ?_)
      · refine lv_lload hx hb d_M_passes_102 (lv_at hl 0 rfl) ?_
        obtain ⟨s_7, es_7⟩ : ∃ g9 : Nat → Int64, g9 = vp_updL S (235 + k) ((9 * (S (235 + k))) / 10) := ⟨_, rfl⟩
        refine q_last (k := 235 + k) 1 (ws1 := [((am 0), .inr (8, [.int th, .ref (am 1), .ref (am 2), .ref (am 3), .ref (am 4), .ref (am 5), .long bu, .long he, .ref (am 6), .ref (am 7)])), ((am 1), .inl (ct 1, 334, .inr (.inl s_7))), ((am 6), .inl (ct 1, 9, .inr (.inl Bf)))]) es_7 hx hb hE hP hD hS rfl rfl (by omega) (by decide) rfl d_M_passes_104 (fun H locs hP hD hS => ?_)
        refine lv_aload_n hx hb d_M_passes_105 rfl (lv_at hl 4 rfl) ?_
        refine q_get 0 1 i_M rfl hx hb hts hown hE hP rfl (by decide) x_937 rfl d_M_passes_106 ?_
        refine lv_sipush (v := 227) hx hb d_M_passes_109 (by decide) ?_
        refine lv_iload hx hb d_M_passes_112 (lv_at hl 1 rfl) ?_
        refine q_iadd (v := nI (227 + (k + 1))) hx hb d_M_passes_114 (nI_add 227 (k + 1)) ?_
        refine q_lald (k := 227 + (k + 1)) 1 hx hb hE hP rfl rfl (by omega) (by decide) d_M_passes_115 ?_
        refine q_topl (v := S (227 + (k + 1))) (by simp (disch := omega) only [es_7, pk_uLn, pk_uLs, pk_us, pk_un]) ?_
        refine lv_lstore (lv' := [(5, .long (S (227 + (k + 1)))), (4, .int (nI (k + 1))), (3, .int (nI k)), (2, .int 1), (0, .ref (am 0)), (1, .int (nI k))]) hx hb d_M_passes_116 hl (by decide) rfl (fun ls hl => ?_)
        refine lv_aload_n hx hb d_M_passes_118 rfl (lv_at hl 4 rfl) ?_
        refine q_get 0 1 i_M rfl hx hb hts hown hE hP rfl (by decide) x_937 rfl d_M_passes_119 ?_
        refine lv_sipush (v := 227) hx hb d_M_passes_122 (by decide) ?_
        refine lv_iload hx hb d_M_passes_125 (lv_at hl 1 rfl) ?_
        refine q_iadd (v := nI (227 + (k + 1))) hx hb d_M_passes_127 (nI_add 227 (k + 1)) ?_
        refine lv_aload_n hx hb d_M_passes_128 rfl (lv_at hl 4 rfl) ?_
        refine q_get 0 1 i_M rfl hx hb hts hown hE hP rfl (by decide) x_937 rfl d_M_passes_129 ?_
        refine lv_sipush (v := 211) hx hb d_M_passes_132 (by decide) ?_
        refine lv_iload hx hb d_M_passes_135 (lv_at hl 1 rfl) ?_
        refine q_iadd (v := nI (211 + (k + 1))) hx hb d_M_passes_137 (nI_add 211 (k + 1)) ?_
        refine q_lald (k := 211 + (k + 1)) 1 hx hb hE hP rfl rfl (by omega) (by decide) d_M_passes_138 ?_
        refine q_topl (v := S (211 + (k + 1))) (by simp (disch := omega) only [es_7, pk_uLn, pk_uLs, pk_us, pk_un]) ?_
        refine lv_lconst (v := 1) hx hb d_M_passes_139 (by decide) ?_
        refine W.lcmp hx hb d_M_passes_140 ?_
        refine q_cmp_ne (tgt := 164) hx hb d_M_passes_141 (by decide) (fun h_141 => absurd h_59 h_141) (fun h_141 => ?_)
        refine lv_lload hx hb d_M_passes_144 (lv_at hl 0 rfl) ?_
        refine lv_aload_n hx hb d_M_passes_146 rfl (lv_at hl 4 rfl) ?_
        refine q_get 0 1 i_M rfl hx hb hts hown hE hP rfl (by decide) x_937 rfl d_M_passes_147 ?_
        refine lv_sipush (v := 227) hx hb d_M_passes_150 (by decide) ?_
        refine lv_iload_n hx hb d_M_passes_153 rfl (lv_at hl 2 rfl) ?_
        refine q_iadd (v := nI (227 + k)) hx hb d_M_passes_154 (nI_add 227 k) ?_
        refine q_lald (k := 227 + k) 1 hx hb hE hP rfl rfl (by omega) (by decide) d_M_passes_155 ?_
        refine q_topl (v := S (227 + k)) (by simp (disch := omega) only [es_7, pk_uLn, pk_uLs, pk_us, pk_un]) ?_
        refine lv_ldc2 (v := 10) hx hb hown (hts _ (List.mem_cons_of_mem _ x_1168)) d_M_passes_156 ?_
        refine lv_ldiv hx hb d_M_passes_159 (by decide) ?_
        refine lv_ladd hx hb d_M_passes_160 ?_
        refine lv_goto (tgt := 170) hx hb d_M_passes_161 (by decide) ?_
        refine cRS (As := [.long ((S (227 + (k + 1))) + ((S (227 + k)) / 10))]) (rest := [.int (nI (227 + (k + 1))), .ref (am 1)]) K_M_held x_1174 hx hb hml hown hts hE hV hS (c_M_held l D ct st ((S (227 + (k + 1))) + ((S (227 + k)) / 10))) (fun k q h => by simp at h) rfl hl.1 rfl (Nat.le_of_ble_eq_true rfl) d_M_passes_170 (Nat.le_of_ble_eq_true rfl) (Nat.le_of_ble_eq_true rfl) ⟨Nat.le_of_ble_eq_true rfl, Nat.le_of_ble_eq_true rfl⟩ ?_
        obtain ⟨s_8, es_8⟩ : ∃ g9 : Nat → Int64, g9 = vp_updL s_7 (227 + (k + 1)) (w_held ((S (227 + (k + 1))) + ((S (227 + k)) / 10))) := ⟨_, rfl⟩
        refine q_last (k := 227 + (k + 1)) 1 (ws1 := [((am 0), .inr (8, [.int th, .ref (am 1), .ref (am 2), .ref (am 3), .ref (am 4), .ref (am 5), .long bu, .long he, .ref (am 6), .ref (am 7)])), ((am 1), .inl (ct 1, 334, .inr (.inl s_8))), ((am 6), .inl (ct 1, 9, .inr (.inl Bf)))]) es_8 hx hb hE hP hD hS rfl rfl (by omega) (by decide) rfl d_M_passes_173 (fun H locs hP hD hS => ?_)
        refine lv_aload_n hx hb d_M_passes_174 rfl (lv_at hl 4 rfl) ?_
        refine lv_iload_n hx hb d_M_passes_175 rfl (lv_at hl 5 rfl) ?_
        refine cWV (As := [.int (nI k)]) (rest := []) (q9 := 0) (ci := 8) K_M_turns x_1164 hx hb hml hown hts hE hV hS (c_M_turns l D ct st am th bu he s_8 Bf k (by omega) _) hP hD hA [0, 1, 2] [] (wr := []) rfl rfl (by decide) (by decide) (by decide) rfl hP rfl rfl hl.1 rfl (Nat.le_of_ble_eq_true rfl) d_M_passes_176 (Nat.le_of_ble_eq_true rfl) (Nat.le_of_ble_eq_true rfl) ⟨Nat.le_of_ble_eq_true rfl, Nat.le_of_ble_eq_true rfl⟩ (fun v W1 H locs hpost hP hD hS => ?_)
        obtain ⟨s1_5, before1_5, rfl, rfl, hq_176⟩ := hpost
        have hP : va_P D classes [((am 0), .inr (8, [.int th, .ref (am 1), .ref (am 2), .ref (am 3), .ref (am 4), .ref (am 5), .long bu, .long he, .ref (am 6), .ref (am 7)])), ((am 1), .inl (ct 1, 334, .inr (.inl s1_5))), ((am 6), .inl (ct 1, 9, .inr (.inl before1_5)))] H := hP
        have hD : va_D A [((am 0), .inr (8, [.int th, .ref (am 1), .ref (am 2), .ref (am 3), .ref (am 4), .ref (am 5), .long bu, .long he, .ref (am 6), .ref (am 7)])), ((am 1), .inl (ct 1, 334, .inr (.inl s1_5))), ((am 6), .inl (ct 1, 9, .inr (.inl before1_5)))] := hD
        refine lv_iload_n hx hb d_M_passes_179 rfl (lv_at hl 5 rfl) ?_
        refine lv_iconst (v := 1) hx hb d_M_passes_180 (by decide) ?_
        refine q_iadd (v := nI (k + 1)) hx hb d_M_passes_181 (nI_add k 1) ?_
        exact rW_i hx hb hr hlk hAe hS hP hD (Nat.le_of_ble_eq_true rfl) (Nat.le_of_ble_eq_true rfl) d_M_passes_182 ⟨s1_5, before1_5, k + 1, rfl, rfl, by
              have hU : ∀ a j, a < 5 → j < 8 → fS s_8 Bf a j = if a = 3 ∧ j = k then (((9 * (S (235 + k))) / 10) : Int64).toInt else if a = 2 ∧ j = k + 1 then (w_held (S (227 + (k + 1)) + S (227 + k) / 10)).toInt else fS S Bf a j := by
                intro a j ha hj
                rcases a5 ha with rfl | rfl | rfl | rfl | rfl
                · rw [fS0, fS0, if_neg (by omega), if_neg (by omega)]; simp (disch := omega) only [es_8, es_7, pk_uLn, pk_uLs, pk_us, pk_un]
                · rw [fS1, fS1, if_neg (by omega), if_neg (by omega)]; simp (disch := omega) only [es_8, es_7, pk_uLn, pk_uLs, pk_us, pk_un]
                · rw [fS2, fS2, if_neg (by omega)]
                  by_cases q9 : j = k + 1
                  · rw [if_pos ⟨rfl, q9⟩, q9]; simp (disch := omega) only [es_8, es_7, pk_uLn, pk_uLs, pk_us, pk_un]
                  · rw [if_neg (by omega)]; simp (disch := omega) only [es_8, es_7, pk_uLn, pk_uLs, pk_us, pk_un]
                · rw [fS3, fS3]
                  by_cases q9 : j = k
                  · rw [if_pos ⟨rfl, q9⟩, q9]; simp (disch := omega) only [es_8, es_7, pk_uLn, pk_uLs, pk_us, pk_un]
                  · rw [if_neg (by omega), if_neg (by omega)]; simp (disch := omega) only [es_8, es_7, pk_uLn, pk_uLs, pk_us, pk_un]
                · rw [fS4, fS4, if_neg (by omega), if_neg (by omega)]
              have key := pas hs hd (x := k) (o := k + 1) (by rw [fS0]; first | exact Or.inl ⟨eq0.mp h_12, rfl, rfl⟩ | exact Or.inr ⟨fun z => h_12 (eq0.mpr z), rfl, rfl⟩) (st_b (z := S (211 + (k + 1))) (fS0 S Bf _).symm h_59 (y := S (235 + k)) (fS3 S Bf _).symm p3 h_95) (sp_a (z := S (211 + (k + 1))) (fS0 S Bf _).symm h_59 (fS2 S Bf _).symm (fS2 S Bf _).symm q2 p2) hU hq_176.1 hk hn8
              exact ⟨key.2.1.symm, by rw [key.1]; exact hq_176.2.1.trans ((show s_8 210 = S 210 by simp (disch := omega) only [es_8, es_7, pk_uLn, pk_uLs, pk_us, pk_un]).trans hcnt), by rw [key.1]; exact key.2.2, hq_176.2.2.trans (fun j hj => by simp (disch := omega) only [es_8, es_7, pk_uLn, pk_uLs, pk_us, pk_un])⟩⟩
      · refine lv_lconst (v := 1) hx hb d_M_passes_98 (by decide) ?_
        refine lv_goto (tgt := 104) hx hb d_M_passes_99 (by decide) ?_
        obtain ⟨s_9, es_9⟩ : ∃ g9 : Nat → Int64, g9 = vp_updL S (235 + k) 1 := ⟨_, rfl⟩
        refine q_last (k := 235 + k) 1 (ws1 := [((am 0), .inr (8, [.int th, .ref (am 1), .ref (am 2), .ref (am 3), .ref (am 4), .ref (am 5), .long bu, .long he, .ref (am 6), .ref (am 7)])), ((am 1), .inl (ct 1, 334, .inr (.inl s_9))), ((am 6), .inl (ct 1, 9, .inr (.inl Bf)))]) es_9 hx hb hE hP hD hS rfl rfl (by omega) (by decide) rfl d_M_passes_104 (fun H locs hP hD hS => ?_)
        refine lv_aload_n hx hb d_M_passes_105 rfl (lv_at hl 4 rfl) ?_
        refine q_get 0 1 i_M rfl hx hb hts hown hE hP rfl (by decide) x_937 rfl d_M_passes_106 ?_
        refine lv_sipush (v := 227) hx hb d_M_passes_109 (by decide) ?_
        refine lv_iload hx hb d_M_passes_112 (lv_at hl 1 rfl) ?_
        refine q_iadd (v := nI (227 + (k + 1))) hx hb d_M_passes_114 (nI_add 227 (k + 1)) ?_
        refine q_lald (k := 227 + (k + 1)) 1 hx hb hE hP rfl rfl (by omega) (by decide) d_M_passes_115 ?_
        refine q_topl (v := S (227 + (k + 1))) (by simp (disch := omega) only [es_9, pk_uLn, pk_uLs, pk_us, pk_un]) ?_
        refine lv_lstore (lv' := [(5, .long (S (227 + (k + 1)))), (4, .int (nI (k + 1))), (3, .int (nI k)), (2, .int 1), (0, .ref (am 0)), (1, .int (nI k))]) hx hb d_M_passes_116 hl (by decide) rfl (fun ls hl => ?_)
        refine lv_aload_n hx hb d_M_passes_118 rfl (lv_at hl 4 rfl) ?_
        refine q_get 0 1 i_M rfl hx hb hts hown hE hP rfl (by decide) x_937 rfl d_M_passes_119 ?_
        refine lv_sipush (v := 227) hx hb d_M_passes_122 (by decide) ?_
        refine lv_iload hx hb d_M_passes_125 (lv_at hl 1 rfl) ?_
        refine q_iadd (v := nI (227 + (k + 1))) hx hb d_M_passes_127 (nI_add 227 (k + 1)) ?_
        refine lv_aload_n hx hb d_M_passes_128 rfl (lv_at hl 4 rfl) ?_
        refine q_get 0 1 i_M rfl hx hb hts hown hE hP rfl (by decide) x_937 rfl d_M_passes_129 ?_
        refine lv_sipush (v := 211) hx hb d_M_passes_132 (by decide) ?_
        refine lv_iload hx hb d_M_passes_135 (lv_at hl 1 rfl) ?_
        refine q_iadd (v := nI (211 + (k + 1))) hx hb d_M_passes_137 (nI_add 211 (k + 1)) ?_
        refine q_lald (k := 211 + (k + 1)) 1 hx hb hE hP rfl rfl (by omega) (by decide) d_M_passes_138 ?_
        refine q_topl (v := S (211 + (k + 1))) (by simp (disch := omega) only [es_9, pk_uLn, pk_uLs, pk_us, pk_un]) ?_
        refine lv_lconst (v := 1) hx hb d_M_passes_139 (by decide) ?_
        refine W.lcmp hx hb d_M_passes_140 ?_
        refine q_cmp_ne (tgt := 164) hx hb d_M_passes_141 (by decide) (fun h_141 => absurd h_59 h_141) (fun h_141 => ?_)
        refine lv_lload hx hb d_M_passes_144 (lv_at hl 0 rfl) ?_
        refine lv_aload_n hx hb d_M_passes_146 rfl (lv_at hl 4 rfl) ?_
        refine q_get 0 1 i_M rfl hx hb hts hown hE hP rfl (by decide) x_937 rfl d_M_passes_147 ?_
        refine lv_sipush (v := 227) hx hb d_M_passes_150 (by decide) ?_
        refine lv_iload_n hx hb d_M_passes_153 rfl (lv_at hl 2 rfl) ?_
        refine q_iadd (v := nI (227 + k)) hx hb d_M_passes_154 (nI_add 227 k) ?_
        refine q_lald (k := 227 + k) 1 hx hb hE hP rfl rfl (by omega) (by decide) d_M_passes_155 ?_
        refine q_topl (v := S (227 + k)) (by simp (disch := omega) only [es_9, pk_uLn, pk_uLs, pk_us, pk_un]) ?_
        refine lv_ldc2 (v := 10) hx hb hown (hts _ (List.mem_cons_of_mem _ x_1168)) d_M_passes_156 ?_
        refine lv_ldiv hx hb d_M_passes_159 (by decide) ?_
        refine lv_ladd hx hb d_M_passes_160 ?_
        refine lv_goto (tgt := 170) hx hb d_M_passes_161 (by decide) ?_
        refine cRS (As := [.long ((S (227 + (k + 1))) + ((S (227 + k)) / 10))]) (rest := [.int (nI (227 + (k + 1))), .ref (am 1)]) K_M_held x_1174 hx hb hml hown hts hE hV hS (c_M_held l D ct st ((S (227 + (k + 1))) + ((S (227 + k)) / 10))) (fun k q h => by simp at h) rfl hl.1 rfl (Nat.le_of_ble_eq_true rfl) d_M_passes_170 (Nat.le_of_ble_eq_true rfl) (Nat.le_of_ble_eq_true rfl) ⟨Nat.le_of_ble_eq_true rfl, Nat.le_of_ble_eq_true rfl⟩ ?_
        obtain ⟨s_10, es_10⟩ : ∃ g9 : Nat → Int64, g9 = vp_updL s_9 (227 + (k + 1)) (w_held ((S (227 + (k + 1))) + ((S (227 + k)) / 10))) := ⟨_, rfl⟩
        refine q_last (k := 227 + (k + 1)) 1 (ws1 := [((am 0), .inr (8, [.int th, .ref (am 1), .ref (am 2), .ref (am 3), .ref (am 4), .ref (am 5), .long bu, .long he, .ref (am 6), .ref (am 7)])), ((am 1), .inl (ct 1, 334, .inr (.inl s_10))), ((am 6), .inl (ct 1, 9, .inr (.inl Bf)))]) es_10 hx hb hE hP hD hS rfl rfl (by omega) (by decide) rfl d_M_passes_173 (fun H locs hP hD hS => ?_)
        refine lv_aload_n hx hb d_M_passes_174 rfl (lv_at hl 4 rfl) ?_
        refine lv_iload_n hx hb d_M_passes_175 rfl (lv_at hl 5 rfl) ?_
        refine cWV (As := [.int (nI k)]) (rest := []) (q9 := 0) (ci := 8) K_M_turns x_1164 hx hb hml hown hts hE hV hS (c_M_turns l D ct st am th bu he s_10 Bf k (by omega) _) hP hD hA [0, 1, 2] [] (wr := []) rfl rfl (by decide) (by decide) (by decide) rfl hP rfl rfl hl.1 rfl (Nat.le_of_ble_eq_true rfl) d_M_passes_176 (Nat.le_of_ble_eq_true rfl) (Nat.le_of_ble_eq_true rfl) ⟨Nat.le_of_ble_eq_true rfl, Nat.le_of_ble_eq_true rfl⟩ (fun v W1 H locs hpost hP hD hS => ?_)
        obtain ⟨s1_6, before1_6, rfl, rfl, hq_176⟩ := hpost
        have hP : va_P D classes [((am 0), .inr (8, [.int th, .ref (am 1), .ref (am 2), .ref (am 3), .ref (am 4), .ref (am 5), .long bu, .long he, .ref (am 6), .ref (am 7)])), ((am 1), .inl (ct 1, 334, .inr (.inl s1_6))), ((am 6), .inl (ct 1, 9, .inr (.inl before1_6)))] H := hP
        have hD : va_D A [((am 0), .inr (8, [.int th, .ref (am 1), .ref (am 2), .ref (am 3), .ref (am 4), .ref (am 5), .long bu, .long he, .ref (am 6), .ref (am 7)])), ((am 1), .inl (ct 1, 334, .inr (.inl s1_6))), ((am 6), .inl (ct 1, 9, .inr (.inl before1_6)))] := hD
        refine lv_iload_n hx hb d_M_passes_179 rfl (lv_at hl 5 rfl) ?_
        refine lv_iconst (v := 1) hx hb d_M_passes_180 (by decide) ?_
        refine q_iadd (v := nI (k + 1)) hx hb d_M_passes_181 (nI_add k 1) ?_
        exact rW_i hx hb hr hlk hAe hS hP hD (Nat.le_of_ble_eq_true rfl) (Nat.le_of_ble_eq_true rfl) d_M_passes_182 ⟨s1_6, before1_6, k + 1, rfl, rfl, by
              have hU : ∀ a j, a < 5 → j < 8 → fS s_10 Bf a j = if a = 3 ∧ j = k then (1 : Int64).toInt else if a = 2 ∧ j = k + 1 then (w_held (S (227 + (k + 1)) + S (227 + k) / 10)).toInt else fS S Bf a j := by
                intro a j ha hj
                rcases a5 ha with rfl | rfl | rfl | rfl | rfl
                · rw [fS0, fS0, if_neg (by omega), if_neg (by omega)]; simp (disch := omega) only [es_10, es_9, pk_uLn, pk_uLs, pk_us, pk_un]
                · rw [fS1, fS1, if_neg (by omega), if_neg (by omega)]; simp (disch := omega) only [es_10, es_9, pk_uLn, pk_uLs, pk_us, pk_un]
                · rw [fS2, fS2, if_neg (by omega)]
                  by_cases q9 : j = k + 1
                  · rw [if_pos ⟨rfl, q9⟩, q9]; simp (disch := omega) only [es_10, es_9, pk_uLn, pk_uLs, pk_us, pk_un]
                  · rw [if_neg (by omega)]; simp (disch := omega) only [es_10, es_9, pk_uLn, pk_uLs, pk_us, pk_un]
                · rw [fS3, fS3]
                  by_cases q9 : j = k
                  · rw [if_pos ⟨rfl, q9⟩, q9]; simp (disch := omega) only [es_10, es_9, pk_uLn, pk_uLs, pk_us, pk_un]
                  · rw [if_neg (by omega), if_neg (by omega)]; simp (disch := omega) only [es_10, es_9, pk_uLn, pk_uLs, pk_us, pk_un]
                · rw [fS4, fS4, if_neg (by omega), if_neg (by omega)]
              have key := pas hs hd (x := k) (o := k + 1) (by rw [fS0]; first | exact Or.inl ⟨eq0.mp h_12, rfl, rfl⟩ | exact Or.inr ⟨fun z => h_12 (eq0.mpr z), rfl, rfl⟩) (st_c (z := S (211 + (k + 1))) (fS0 S Bf _).symm h_59 (y := S (235 + k)) (fS3 S Bf _).symm p3 h_95) (sp_a (z := S (211 + (k + 1))) (fS0 S Bf _).symm h_59 (fS2 S Bf _).symm (fS2 S Bf _).symm q2 p2) hU hq_176.1 hk hn8
              exact ⟨key.2.1.symm, by rw [key.1]; exact hq_176.2.1.trans ((show s_10 210 = S 210 by simp (disch := omega) only [es_10, es_9, pk_uLn, pk_uLs, pk_us, pk_un]).trans hcnt), by rw [key.1]; exact key.2.2, hq_176.2.2.trans (fun j hj => by simp (disch := omega) only [es_10, es_9, pk_uLn, pk_uLs, pk_us, pk_un])⟩⟩
