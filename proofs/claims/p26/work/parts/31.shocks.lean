def swp (G : RF) (k : Nat) : RF := fun a j => if j = k + 1 then (if a = 1 ∨ a = 4 then G a (k + 1) else G a k) else if j = k then G a (k + 1) else G a j
def msn (G : RF) (k : Nat) : Nat → Int := r_new 1 (G 1 k) ((G 2 k + G 2 (k + 1)).tdiv 10) (r_abs (G 3 k - G 3 (k + 1)))
def msh (n : Nat) (G : RF) (k : Nat) : Nat × RF × Nat := if 0 < G 2 k * G 2 (k + 1) then (n - 1, r_rem (mrg G k) (k + 1), 1) else if swp G k 3 k ≠ swp G k 3 (k + 1) ∧ n < 8 then (n + 1, r_ins (swp G k) (k + 1) (msn (swp G k) k), 3) else (n, swp G k, 2)
theorem msh_m {n : Nat} {G : RF} {k : Nat} (h : 0 < G 2 k * G 2 (k + 1)) : msh n G k = (n - 1, r_rem (mrg G k) (k + 1), 1) := if_pos h
theorem msh_p {n : Nat} {G : RF} {k : Nat} (h : ¬ 0 < G 2 k * G 2 (k + 1)) (h2 : swp G k 3 k ≠ swp G k 3 (k + 1) ∧ n < 8) : msh n G k = (n + 1, r_ins (swp G k) (k + 1) (msn (swp G k) k), 3) := (if_neg h).trans (if_pos h2)
theorem msh_t {n : Nat} {G : RF} {k : Nat} (h : ¬ 0 < G 2 k * G 2 (k + 1)) (h2 : ¬ (swp G k 3 k ≠ swp G k 3 (k + 1) ∧ n < 8)) : msh n G k = (n, swp G k, 2) := (if_neg h).trans (if_neg h2)
theorem prodI {x y : Int32} (h1 : -900 ≤ x.toInt ∧ x.toInt ≤ 900) (h2 : -900 ≤ y.toInt ∧ y.toInt ≤ 900) : (x * y).toInt = x.toInt * y.toInt := by
  have a1 : x.toInt * y.toInt ≤ 810000 := by
    rcases Int.lt_or_le x.toInt 0 with q | q
    · have := Int.mul_le_mul_of_nonpos_left (a := x.toInt) (b := y.toInt) (c := -900) (by omega) (by omega)
      omega
    · have := Int.mul_le_mul_of_nonneg_left (a := y.toInt) (b := 900) (c := x.toInt) (by omega) q
      omega
  have a2 : -810000 ≤ x.toInt * y.toInt := by
    rcases Int.lt_or_le x.toInt 0 with q | q
    · have := Int.mul_le_mul_of_nonpos_left (a := x.toInt) (b := 900) (c := y.toInt) (by omega) (by omega)
      omega
    · have := Int.mul_le_mul_of_nonneg_left (a := -900) (b := y.toInt) (c := x.toInt) (by omega) q
      omega
  exact fb_mulI (by omega) (by omega)
theorem abI_t {x : Int32} (h : -900 ≤ x.toInt ∧ x.toInt ≤ 900) : (abI x).toInt = r_abs x.toInt := by
  unfold abI r_abs
  by_cases q : 0 ≤ x
  · have q2 : 0 ≤ x.toInt := Int32.le_iff_toInt_le.mp q
    rw [if_pos q, if_neg (by omega)]
  · have q2 : x.toInt < 0 := Int32.lt_iff_toInt_lt.mp (Int32.not_le.mp q)
    rw [if_neg q, if_pos q2, fb_subI (x := 0) (by show _ ≤ 0 - x.toInt; omega) (by show 0 - x.toInt < _; omega)]
    show 0 - x.toInt = _
    omega
theorem msn_I {dk dp ds dg da : Nat → Int32} {M : RF} {k : Nat} (h : ∀ a j, a < 5 → j < 8 → fR dk dp ds dg da a j = M a j) (hk : k + 1 < 8) (g1 : -900 ≤ (ds k).toInt ∧ (ds k).toInt ≤ 900) (g2 : 1 ≤ (dg k).toInt ∧ (dg k).toInt ≤ 900) (g3 : -900 ≤ (ds (k + 1)).toInt ∧ (ds (k + 1)).toInt ≤ 900) (g4 : 1 ≤ (dg (k + 1)).toInt ∧ (dg (k + 1)).toInt ≤ 900) : r_new (1 : Int32).toInt (dp k).toInt ((ds k + ds (k + 1)) / 10).toInt (abI (dg k - dg (k + 1))).toInt = msn M k := by
  have e1 : (ds k + ds (k + 1)).toInt = (ds k).toInt + (ds (k + 1)).toInt := fb_addI (by omega) (by omega)
  have e2 : (dg k - dg (k + 1)).toInt = (dg k).toInt - (dg (k + 1)).toInt := fb_subI (by omega) (by omega)
  unfold msn
  rw [← h 1 k (by decide) (by omega), ← h 2 k (by decide) (by omega), ← h 2 (k + 1) (by decide) hk, ← h 3 k (by decide) (by omega), ← h 3 (k + 1) (by decide) hk, fR1, fR2, fR2, fR3, fR3, divI_toInt (by decide), e1, abI_t (by omega), e2]
  rfl

set_option maxHeartbeats 4000000 in
set_option maxRecDepth 100000 in
theorem c_Row_meetShocks (l : Launch) (D : va_G) (ct : Nat → ClassId) (st : Nat → Nat) (ra : Nat → Nat) (cnt : Nat) (ck : Nat → Int32) (cp : Nat → Int32) (ca : Nat → Int32) (cs : Nat → Int32) (cg : Nat → Int32) (k : Nat) (hn8 : cnt ≤ 8) (hk : k + 1 < cnt) (g1 : -900 ≤ (cs k).toInt ∧ (cs k).toInt ≤ 900) (g2 : 1 ≤ (cg k).toInt ∧ (cg k).toInt ≤ 900) (g3 : -900 ≤ (cs (k + 1)).toInt ∧ (cs (k + 1)).toInt ≤ 900) (g4 : 1 ≤ (cg (k + 1)).toInt ∧ (cg (k + 1)).toInt ≤ 900) (sz : Nat) : Met l y_Row_meetShocks (wsy y_Row_meetShocks b_Row_meetShocks 5 (some .int)) (rmW 3 0 0 67) (PcW D ct st [.ref (ra 0), .int (nI k)] [((ra 0), .inr (3, [.int (nI cnt), .ref (ra 1), .ref (ra 2), .ref (ra 3), .ref (ra 4), .ref (ra 5)])), ((ra 1), .inl (ct 0, 8, .inl ck)), ((ra 2), .inl (ct 0, 8, .inl cp)), ((ra 3), .inl (ct 0, 8, .inl ca)), ((ra 4), .inl (ct 0, 8, .inl cs)), ((ra 5), .inl (ct 0, 8, .inl cg))] sz) (QcW D [((ra 0), .inr (3, [.int (nI cnt), .ref (ra 1), .ref (ra 2), .ref (ra 3), .ref (ra 4), .ref (ra 5)])), ((ra 1), .inl (ct 0, 8, .inl ck)), ((ra 2), .inl (ct 0, 8, .inl cp)), ((ra 3), .inl (ct 0, 8, .inl ca)), ((ra 4), .inl (ct 0, 8, .inl cs)), ((ra 5), .inl (ct 0, 8, .inl cg))] sz (fun v W1 => ∃ (ck1 : Nat → Int32) (cp1 : Nat → Int32) (ca1 : Nat → Int32) (cs1 : Nat → Int32) (cg1 : Nat → Int32) (c9 : Nat) (rv9 : Nat), v = some (.int (nI rv9)) ∧ W1 = [((ra 0), .inr (3, [.int (nI c9), .ref (ra 1), .ref (ra 2), .ref (ra 3), .ref (ra 4), .ref (ra 5)])), ((ra 1), .inl (ct 0, 8, .inl ck1)), ((ra 2), .inl (ct 0, 8, .inl cp1)), ((ra 3), .inl (ct 0, 8, .inl ca1)), ((ra 4), .inl (ct 0, 8, .inl cs1)), ((ra 5), .inl (ct 0, 8, .inl cg1))] ∧ (c9 = (msh cnt (fR ck cp cs cg ca) k).1 ∧ rv9 = (msh cnt (fR ck cp cs cg ca) k).2.2 ∧ ∀ a j, a < 5 → j < c9 → fR ck1 cp1 cs1 cg1 ca1 a j = (msh cnt (fR ck cp cs cg ca) k).2.1 a j))) 0 0 (va_A [((ra 0), .inr (3, [.int (nI cnt), .ref (ra 1), .ref (ra 2), .ref (ra 3), .ref (ra 4), .ref (ra 5)])), ((ra 1), .inl (ct 0, 8, .inl ck)), ((ra 2), .inl (ct 0, 8, .inl cp)), ((ra 3), .inl (ct 0, 8, .inl ca)), ((ra 4), .inl (ct 0, 8, .inl cs)), ((ra 5), .inl (ct 0, 8, .inl cg))] sz) := by
  refine enterW (by decide) (Nat.le_of_ble_eq_true rfl) ?_
  intro p e s m args below meth c ls A hx hb hr hml hown hts hlk hin hsz hAe hP hD hA hE hV hS hl
  have hl : lv_has ls 5 [(0, .ref (ra 0)), (1, .int (nI k))] := hl
  refine lv_iload_n hx hb d_Row_meetShocks_0 rfl (lv_at hl 1 rfl) ?_
  refine lv_iconst (v := 1) hx hb d_Row_meetShocks_1 (by decide) ?_
  refine q_iadd (v := nI (k + 1)) hx hb d_Row_meetShocks_2 (nI_add k 1) ?_
  refine lv_istore_n (lv' := [(2, .int (nI (k + 1))), (0, .ref (ra 0)), (1, .int (nI k))]) hx hb d_Row_meetShocks_3 rfl hl (by decide) rfl (fun ls hl => ?_)
  refine lv_aload_n hx hb d_Row_meetShocks_4 rfl (lv_at hl 1 rfl) ?_
  refine q_get 0 4 i_Row rfl hx hb hts hown hE hP rfl (by decide) x_154 rfl d_Row_meetShocks_5 ?_
  refine lv_iload_n hx hb d_Row_meetShocks_8 rfl (lv_at hl 2 rfl) ?_
  refine q_iald (k := k) 4 hx hb hE hP rfl rfl (by omega) (by decide) d_Row_meetShocks_9 ?_
  refine lv_aload_n hx hb d_Row_meetShocks_10 rfl (lv_at hl 1 rfl) ?_
  refine q_get 0 4 i_Row rfl hx hb hts hown hE hP rfl (by decide) x_154 rfl d_Row_meetShocks_11 ?_
  refine lv_iload_n hx hb d_Row_meetShocks_14 rfl (lv_at hl 0 rfl) ?_
  refine q_iald (k := k + 1) 4 hx hb hE hP rfl rfl (by omega) (by decide) d_Row_meetShocks_15 ?_
  refine lv_imul hx hb d_Row_meetShocks_16 ?_
  refine lv_if_le (tgt := 27) hx hb d_Row_meetShocks_17 (by decide) (fun h_17 => ?_) (fun h_17 => ?_)
  · have p17 : ¬ 0 < (fR ck cp cs cg ca) 2 k * (fR ck cp cs cg ca) 2 (k + 1) := by rw [fR2, fR2, ← prodI g1 g3]; exact Int.not_lt.mpr (Int32.le_iff_toInt_le.mp h_17)
    refine lv_aload_n hx hb d_Row_meetShocks_27 rfl (lv_at hl 1 rfl) ?_
    refine lv_iload_n hx hb d_Row_meetShocks_28 rfl (lv_at hl 2 rfl) ?_
    refine cWV (As := [.int (nI k)]) (rest := []) (q9 := 0) (ci := 3) K_Row_changePlaces x_697 hx hb hml hown hts hE hV hS (c_Row_changePlaces l D ct st ra cnt ck cp ca cs cg k (by omega) _) hP hD hA [0, 1, 2, 3, 4, 5] [] (wr := []) rfl rfl (by decide) (by decide) (by decide) rfl hP rfl rfl hl.1 rfl (Nat.le_of_ble_eq_true rfl) d_Row_meetShocks_29 (Nat.le_of_ble_eq_true rfl) (Nat.le_of_ble_eq_true rfl) ⟨Nat.le_of_ble_eq_true rfl, Nat.le_of_ble_eq_true rfl⟩ (fun v W1 H locs hpost hP hD hS => ?_)
    obtain ⟨ck1_1, cp1_1, ca1_1, cs1_1, cg1_1, rfl, rfl, hq_29⟩ := hpost
    have hP : va_P D classes [((ra 0), .inr (3, [.int (nI cnt), .ref (ra 1), .ref (ra 2), .ref (ra 3), .ref (ra 4), .ref (ra 5)])), ((ra 1), .inl (ct 0, 8, .inl ck1_1)), ((ra 2), .inl (ct 0, 8, .inl cp1_1)), ((ra 3), .inl (ct 0, 8, .inl ca1_1)), ((ra 4), .inl (ct 0, 8, .inl cs1_1)), ((ra 5), .inl (ct 0, 8, .inl cg1_1))] H := hP
    have hD : va_D A [((ra 0), .inr (3, [.int (nI cnt), .ref (ra 1), .ref (ra 2), .ref (ra 3), .ref (ra 4), .ref (ra 5)])), ((ra 1), .inl (ct 0, 8, .inl ck1_1)), ((ra 2), .inl (ct 0, 8, .inl cp1_1)), ((ra 3), .inl (ct 0, 8, .inl ca1_1)), ((ra 4), .inl (ct 0, 8, .inl cs1_1)), ((ra 5), .inl (ct 0, 8, .inl cg1_1))] := hD
    have hsw : ∀ a j, a < 5 → j < 8 → fR ck1_1 cp1_1 cs1_1 cg1_1 ca1_1 a j = swp (fR ck cp cs cg ca) k a j := hq_29
    have s1 : (cs1_1 k).toInt = (cs (k + 1)).toInt ∧ (cg1_1 k).toInt = (cg (k + 1)).toInt := by have z := hsw 2 k (by decide) (by omega); have y := hsw 3 k (by decide) (by omega); rw [fR2] at z; rw [fR3] at y; rw [z, y]; simp [swp, fR2, fR3]
    have s2 : (cs1_1 (k + 1)).toInt = (cs k).toInt ∧ (cg1_1 (k + 1)).toInt = (cg k).toInt := by have z := hsw 2 (k + 1) (by decide) (by omega); have y := hsw 3 (k + 1) (by decide) (by omega); rw [fR2] at z; rw [fR3] at y; rw [z, y]; simp [swp, fR2, fR3]
    have s3 : swp (fR ck cp cs cg ca) k 3 k = (cg1_1 k).toInt ∧ swp (fR ck cp cs cg ca) k 3 (k + 1) = (cg1_1 (k + 1)).toInt := by rw [← hsw 3 k (by decide) (by omega), ← hsw 3 (k + 1) (by decide) (by omega), fR3, fR3]; exact ⟨rfl, rfl⟩
    refine lv_aload_n hx hb d_Row_meetShocks_32 rfl (lv_at hl 1 rfl) ?_
    refine q_get 0 5 i_Row rfl hx hb hts hown hE hP rfl (by decide) x_155 rfl d_Row_meetShocks_33 ?_
    refine lv_iload_n hx hb d_Row_meetShocks_36 rfl (lv_at hl 2 rfl) ?_
    refine q_iald (k := k) 5 hx hb hE hP rfl rfl (by omega) (by decide) d_Row_meetShocks_37 ?_
    refine lv_aload_n hx hb d_Row_meetShocks_38 rfl (lv_at hl 1 rfl) ?_
    refine q_get 0 5 i_Row rfl hx hb hts hown hE hP rfl (by decide) x_155 rfl d_Row_meetShocks_39 ?_
    refine lv_iload_n hx hb d_Row_meetShocks_42 rfl (lv_at hl 0 rfl) ?_
    refine q_iald (k := k + 1) 5 hx hb hE hP rfl rfl (by omega) (by decide) d_Row_meetShocks_43 ?_
    refine lv_icmp_eq (tgt := 56) hx hb d_Row_meetShocks_44 (by decide) (fun h_44 => ?_) (fun h_44 => ?_)
    · refine lv_iconst (v := 2) hx hb d_Row_meetShocks_56 (by decide) ?_
      exact rW_i hx hb hr hlk hAe hS hP hD (Nat.le_of_ble_eq_true rfl) (Nat.le_of_ble_eq_true rfl) d_Row_meetShocks_57 ⟨ck1_1, cp1_1, ca1_1, cs1_1, cg1_1, cnt, 2, rfl, rfl, by have q : ¬ (swp (fR ck cp cs cg ca) k 3 k ≠ swp (fR ck cp cs cg ca) k 3 (k + 1) ∧ cnt < 8) := (fun z => by first | exact z.1 (by rw [s3.1, s3.2, h_44]) | omega); rw [msh_t p17 q]; exact ⟨rfl, rfl, fun a j ha hj => hsw a j ha (by omega)⟩⟩
    · refine lv_aload_n hx hb d_Row_meetShocks_47 rfl (lv_at hl 1 rfl) ?_
      refine q_get 0 0 i_Row rfl hx hb hts hown hE hP rfl (by decide) x_149 rfl d_Row_meetShocks_48 ?_
      refine lv_bipush (v := 8) hx hb d_Row_meetShocks_51 (by decide) ?_
      refine q_icmp_lt_n (a := cnt) (b := 8) (tgt := 58) hx hb d_Row_meetShocks_53 (by decide) rfl rfl (by omega) (by omega) (fun h_53 => ?_) (fun h_53 => ?_)
      · refine lv_aload_n hx hb d_Row_meetShocks_58 rfl (lv_at hl 1 rfl) ?_
        refine q_get 0 4 i_Row rfl hx hb hts hown hE hP rfl (by decide) x_154 rfl d_Row_meetShocks_59 ?_
        refine lv_iload_n hx hb d_Row_meetShocks_62 rfl (lv_at hl 2 rfl) ?_
        refine q_iald (k := k) 4 hx hb hE hP rfl rfl (by omega) (by decide) d_Row_meetShocks_63 ?_
        refine lv_aload_n hx hb d_Row_meetShocks_64 rfl (lv_at hl 1 rfl) ?_
        refine q_get 0 4 i_Row rfl hx hb hts hown hE hP rfl (by decide) x_154 rfl d_Row_meetShocks_65 ?_
        refine lv_iload_n hx hb d_Row_meetShocks_68 rfl (lv_at hl 0 rfl) ?_
        refine q_iald (k := k + 1) 4 hx hb hE hP rfl rfl (by omega) (by decide) d_Row_meetShocks_69 ?_
        refine lv_iadd hx hb d_Row_meetShocks_70 ?_
        refine lv_bipush (v := 10) hx hb d_Row_meetShocks_71 (by decide) ?_
        refine lv_idiv hx hb d_Row_meetShocks_73 (by decide) ?_
        refine lv_istore_n (lv' := [(3, .int (((cs1_1 k) + (cs1_1 (k + 1))) / 10)), (2, .int (nI (k + 1))), (0, .ref (ra 0)), (1, .int (nI k))]) hx hb d_Row_meetShocks_74 rfl hl (by decide) rfl (fun ls hl => ?_)
        refine lv_aload_n hx hb d_Row_meetShocks_75 rfl (lv_at hl 2 rfl) ?_
        refine q_get 0 5 i_Row rfl hx hb hts hown hE hP rfl (by decide) x_155 rfl d_Row_meetShocks_76 ?_
        refine lv_iload_n hx hb d_Row_meetShocks_79 rfl (lv_at hl 3 rfl) ?_
        refine q_iald (k := k) 5 hx hb hE hP rfl rfl (by omega) (by decide) d_Row_meetShocks_80 ?_
        refine lv_aload_n hx hb d_Row_meetShocks_81 rfl (lv_at hl 2 rfl) ?_
        refine q_get 0 5 i_Row rfl hx hb hts hown hE hP rfl (by decide) x_155 rfl d_Row_meetShocks_82 ?_
        refine lv_iload_n hx hb d_Row_meetShocks_85 rfl (lv_at hl 1 rfl) ?_
        refine q_iald (k := k + 1) 5 hx hb hE hP rfl rfl (by omega) (by decide) d_Row_meetShocks_86 ?_
        refine lv_isub hx hb d_Row_meetShocks_87 ?_
        refine va_mabs hx hb (by rw [hml]; exact hl.1.symm) hown (hts _ (List.mem_cons_of_mem _ x_701)) (hts _ (List.mem_cons_of_mem _ x_702)) (hts _ (List.mem_cons_of_mem _ x_13)) (hts _ (List.mem_cons_of_mem _ x_703)) (Nat.le_of_ble_eq_true rfl) (Nat.le_of_ble_eq_true rfl) (Nat.le_of_ble_eq_true rfl) (Nat.le_of_ble_eq_true rfl) d_Row_meetShocks_88 ?_
        refine q_topi (v := (abI ((cg1_1 k) - (cg1_1 (k + 1))))) rfl ?_
        refine lv_istore (lv' := [(4, .int (abI ((cg1_1 k) - (cg1_1 (k + 1))))), (3, .int (((cs1_1 k) + (cs1_1 (k + 1))) / 10)), (2, .int (nI (k + 1))), (0, .ref (ra 0)), (1, .int (nI k))]) hx hb d_Row_meetShocks_91 hl (by decide) rfl (fun ls hl => ?_)
        refine lv_aload_n hx hb d_Row_meetShocks_93 rfl (lv_at hl 3 rfl) ?_
        refine lv_iload_n hx hb d_Row_meetShocks_94 rfl (lv_at hl 2 rfl) ?_
        refine lv_iconst (v := 1) hx hb d_Row_meetShocks_95 (by decide) ?_
        refine lv_aload_n hx hb d_Row_meetShocks_96 rfl (lv_at hl 3 rfl) ?_
        refine q_get 0 2 i_Row rfl hx hb hts hown hE hP rfl (by decide) x_152 rfl d_Row_meetShocks_97 ?_
        refine lv_iload_n hx hb d_Row_meetShocks_100 rfl (lv_at hl 4 rfl) ?_
        refine q_iald (k := k) 2 hx hb hE hP rfl rfl (by omega) (by decide) d_Row_meetShocks_101 ?_
        refine lv_iload_n hx hb d_Row_meetShocks_102 rfl (lv_at hl 1 rfl) ?_
        refine lv_iload hx hb d_Row_meetShocks_103 (lv_at hl 0 rfl) ?_
        refine cWV (As := [.int (nI (k + 1)), .int 1, .int (cp1_1 k), .int (((cs1_1 k) + (cs1_1 (k + 1))) / 10), .int (abI ((cg1_1 k) - (cg1_1 (k + 1))))]) (rest := []) (q9 := 0) (ci := 3) K_Row_putIn x_704 hx hb hml hown hts hE hV hS (c_Row_putIn l D ct st ra cnt ck1_1 cp1_1 ca1_1 cs1_1 cg1_1 (k + 1) 1 (cp1_1 k) (((cs1_1 k) + (cs1_1 (k + 1))) / 10) (abI ((cg1_1 k) - (cg1_1 (k + 1)))) (by omega) (by omega) _) hP hD hA [0, 1, 2, 3, 4, 5] [] (wr := []) rfl rfl (by decide) (by decide) (by decide) rfl hP rfl rfl hl.1 rfl (Nat.le_of_ble_eq_true rfl) d_Row_meetShocks_105 (Nat.le_of_ble_eq_true rfl) (Nat.le_of_ble_eq_true rfl) ⟨Nat.le_of_ble_eq_true rfl, Nat.le_of_ble_eq_true rfl⟩ (fun v W1 H locs hpost hP hD hS => ?_)
        obtain ⟨ck1_2, cp1_2, ca1_2, cs1_2, cg1_2, rfl, rfl, hq_105⟩ := hpost
        have hP : va_P D classes [((ra 0), .inr (3, [.int (nI (cnt + 1)), .ref (ra 1), .ref (ra 2), .ref (ra 3), .ref (ra 4), .ref (ra 5)])), ((ra 1), .inl (ct 0, 8, .inl ck1_2)), ((ra 2), .inl (ct 0, 8, .inl cp1_2)), ((ra 3), .inl (ct 0, 8, .inl ca1_2)), ((ra 4), .inl (ct 0, 8, .inl cs1_2)), ((ra 5), .inl (ct 0, 8, .inl cg1_2))] H := hP
        have hD : va_D A [((ra 0), .inr (3, [.int (nI (cnt + 1)), .ref (ra 1), .ref (ra 2), .ref (ra 3), .ref (ra 4), .ref (ra 5)])), ((ra 1), .inl (ct 0, 8, .inl ck1_2)), ((ra 2), .inl (ct 0, 8, .inl cp1_2)), ((ra 3), .inl (ct 0, 8, .inl ca1_2)), ((ra 4), .inl (ct 0, 8, .inl cs1_2)), ((ra 5), .inl (ct 0, 8, .inl cg1_2))] := hD
        refine lv_iconst (v := 3) hx hb d_Row_meetShocks_108 (by decide) ?_
        exact rW_i hx hb hr hlk hAe hS hP hD (Nat.le_of_ble_eq_true rfl) (Nat.le_of_ble_eq_true rfl) d_Row_meetShocks_109 ⟨ck1_2, cp1_2, ca1_2, cs1_2, cg1_2, cnt + 1, 3, rfl, rfl, by have q : swp (fR ck cp cs cg ca) k 3 k ≠ swp (fR ck cp cs cg ca) k 3 (k + 1) ∧ cnt < 8 := ⟨fun z => h_44 (Int32.toInt_inj.mp (s3.1.symm.trans (z.trans s3.2))), by omega⟩; rw [msh_p p17 q, ← msn_I hsw (by omega) (by omega) (by omega) (by omega) (by omega)]; exact ⟨rfl, rfl, hq_105.trans (ins_Ag (by omega) (fun a j ha hj => hsw a j ha (by omega)) _)⟩⟩
      · refine lv_iconst (v := 2) hx hb d_Row_meetShocks_56 (by decide) ?_
        exact rW_i hx hb hr hlk hAe hS hP hD (Nat.le_of_ble_eq_true rfl) (Nat.le_of_ble_eq_true rfl) d_Row_meetShocks_57 ⟨ck1_1, cp1_1, ca1_1, cs1_1, cg1_1, cnt, 2, rfl, rfl, by have q : ¬ (swp (fR ck cp cs cg ca) k 3 k ≠ swp (fR ck cp cs cg ca) k 3 (k + 1) ∧ cnt < 8) := (fun z => by first | exact z.1 (by rw [s3.1, s3.2, h_44]) | omega); rw [msh_t p17 q]; exact ⟨rfl, rfl, fun a j ha hj => hsw a j ha (by omega)⟩⟩
  · have p17 : 0 < (fR ck cp cs cg ca) 2 k * (fR ck cp cs cg ca) 2 (k + 1) := by rw [fR2, fR2, ← prodI g1 g3]; exact Int32.lt_iff_toInt_lt.mp (Int32.not_le.mp h_17)
    refine lv_aload_n hx hb d_Row_meetShocks_20 rfl (lv_at hl 1 rfl) ?_
    refine lv_iload_n hx hb d_Row_meetShocks_21 rfl (lv_at hl 2 rfl) ?_
    refine cWV (As := [.int (nI k)]) (rest := []) (q9 := 0) (ci := 3) K_Row_merge x_689 hx hb hml hown hts hE hV hS (c_Row_merge l D ct st ra cnt ck cp ca cs cg k (hn8) (hk) (g1) (g2) (g3) (g4) _) hP hD hA [0, 1, 2, 3, 4, 5] [] (wr := []) rfl rfl (by decide) (by decide) (by decide) rfl hP rfl rfl hl.1 rfl (Nat.le_of_ble_eq_true rfl) d_Row_meetShocks_22 (Nat.le_of_ble_eq_true rfl) (Nat.le_of_ble_eq_true rfl) ⟨Nat.le_of_ble_eq_true rfl, Nat.le_of_ble_eq_true rfl⟩ (fun v W1 H locs hpost hP hD hS => ?_)
    obtain ⟨ck1_3, cp1_3, ca1_3, cs1_3, cg1_3, rfl, rfl, hq_22⟩ := hpost
    have hP : va_P D classes [((ra 0), .inr (3, [.int (nI (cnt - 1)), .ref (ra 1), .ref (ra 2), .ref (ra 3), .ref (ra 4), .ref (ra 5)])), ((ra 1), .inl (ct 0, 8, .inl ck1_3)), ((ra 2), .inl (ct 0, 8, .inl cp1_3)), ((ra 3), .inl (ct 0, 8, .inl ca1_3)), ((ra 4), .inl (ct 0, 8, .inl cs1_3)), ((ra 5), .inl (ct 0, 8, .inl cg1_3))] H := hP
    have hD : va_D A [((ra 0), .inr (3, [.int (nI (cnt - 1)), .ref (ra 1), .ref (ra 2), .ref (ra 3), .ref (ra 4), .ref (ra 5)])), ((ra 1), .inl (ct 0, 8, .inl ck1_3)), ((ra 2), .inl (ct 0, 8, .inl cp1_3)), ((ra 3), .inl (ct 0, 8, .inl ca1_3)), ((ra 4), .inl (ct 0, 8, .inl cs1_3)), ((ra 5), .inl (ct 0, 8, .inl cg1_3))] := hD
    refine lv_iconst (v := 1) hx hb d_Row_meetShocks_25 (by decide) ?_
    exact rW_i hx hb hr hlk hAe hS hP hD (Nat.le_of_ble_eq_true rfl) (Nat.le_of_ble_eq_true rfl) d_Row_meetShocks_26 ⟨ck1_3, cp1_3, ca1_3, cs1_3, cg1_3, cnt - 1, 1, rfl, rfl, ⟨by rw [msh_m p17], by rw [msh_m p17], by rw [msh_m p17]; exact hq_22⟩⟩
