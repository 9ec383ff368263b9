/-! one step in numbers -/
def w_good (m p e f : Int64) : Prop := w_in m 1 1000000 ∧ w_in f 0 m ∧ e ≤ 1000000000 ∧ 0 ≤ w_within m p e
theorem w_inm {m : Int64} (h : w_in m 1 1000000) : 1 ≤ m.toInt ∧ m.toInt ≤ 1000000 := ⟨Int64.le_iff_toInt_le.mp h.1, Int64.le_iff_toInt_le.mp h.2⟩
def w_gone (g : Nat) (ign part m p e f : Int64) : Int64 := if fd (100 * w_pres g (w_within m p e)) m < ign then 0 else fd (f * part) 100
noncomputable def w_f0 (t : Int64) (g : Nat) (M P E F : Nat → Int64) (n lft rgt c : Nat) : Int64 := M c + w_g0 t g M P E n lft rgt c - w_g0 t g M P E n lft rgt (c + 1)
noncomputable def w_f1 (t : Int64) (g : Nat) (M P E F : Nat → Int64) (n lft rgt c : Nat) : Int64 := P c + w_g1 t g M P E n lft rgt c - w_g1 t g M P E n lft rgt (c + 1)
noncomputable def w_f2 (t : Int64) (g : Nat) (M P E F : Nat → Int64) (n lft rgt c : Nat) : Int64 := E c + w_g2 t g M P E n lft rgt c - w_g2 t g M P E n lft rgt (c + 1)
noncomputable def w_f3 (t : Int64) (g : Nat) (M P E F : Nat → Int64) (n lft rgt c : Nat) : Int64 := F c + w_g3 t g M P E F n lft rgt c - w_g3 t g M P E F n lft rgt (c + 1)
noncomputable def w_gn (t : Int64) (g : Nat) (M P E F : Nat → Int64) (n lft rgt : Nat) (ign part : Int64) (c : Nat) : Int64 := w_gone g ign part (w_f0 t g M P E F n lft rgt c) (w_f1 t g M P E F n lft rgt c) (w_f2 t g M P E F n lft rgt c) (w_f3 t g M P E F n lft rgt c)
noncomputable def w_e2 (t : Int64) (g : Nat) (M P E F : Nat → Int64) (n lft rgt : Nat) (ign part heat : Int64) (c : Nat) : Int64 := w_f2 t g M P E F n lft rgt c + w_gn t g M P E F n lft rgt ign part c * heat
noncomputable def w_f4 (t : Int64) (g : Nat) (M P E F : Nat → Int64) (n lft rgt : Nat) (ign part : Int64) (c : Nat) : Int64 := w_f3 t g M P E F n lft rgt c - w_gn t g M P E F n lft rgt ign part c
def w_ok (t : Int64) (g : Nat) (M P E F : Nat → Int64) (n lft rgt : Nat) (ign part heat : Int64) : Prop := (∀ b, b ≤ n → t * w_pace g M P E n lft rgt b ≤ 500000) ∧ ∀ c, c < n → w_good (w_f0 t g M P E F n lft rgt c) (w_f1 t g M P E F n lft rgt c) (w_f2 t g M P E F n lft rgt c) (w_f3 t g M P E F n lft rgt c) ∧ w_good (w_f0 t g M P E F n lft rgt c) (w_f1 t g M P E F n lft rgt c) (w_e2 t g M P E F n lft rgt ign part heat c) (w_f4 t g M P E F n lft rgt ign part c)
def w_sum (f : Nat → Int64) : Nat → Int64
  | 0 => 0
  | n + 1 => w_sum f n + f n
theorem cr_step {G G1 : Nat → Int64} {n k : Nat} {T : Nat → Prop} {a0 a1 a2 a3 : Nat → Int64} (hk : k ≤ n) (hn : n ≤ 32) (h : ∀ b, b < k → T b ∧ G b = a0 b ∧ G (33 + b) = a1 b ∧ G (66 + b) = a2 b ∧ G (99 + b) = a3 b) (hT : T k) (h1 : G1 k = a0 k ∧ G1 (33 + k) = a1 k ∧ G1 (66 + k) = a2 k ∧ G1 (99 + k) = a3 k) (h2 : ∀ j, j ≠ k → j ≠ 33 + k → j ≠ 66 + k → j ≠ 99 + k → G1 j = G j) : ∀ b, b < k + 1 → T b ∧ G1 b = a0 b ∧ G1 (33 + b) = a1 b ∧ G1 (66 + b) = a2 b ∧ G1 (99 + b) = a3 b := by
  intro b hb
  rcases Nat.lt_succ_iff_lt_or_eq.mp hb with q | rfl
  · obtain ⟨q0, q1, q2, q3, q4⟩ := h b q
    exact ⟨q0, by rw [h2 _ (by omega) (by omega) (by omega) (by omega)]; exact q1, by rw [h2 _ (by omega) (by omega) (by omega) (by omega)]; exact q2, by rw [h2 _ (by omega) (by omega) (by omega) (by omega)]; exact q3, by rw [h2 _ (by omega) (by omega) (by omega) (by omega)]; exact q4⟩
  · exact ⟨hT, h1⟩
theorem ce_step {R R1 : Nat → Int64} {n i : Nat} {T : Nat → Prop} {a0 a1 a2 a3 : Nat → Int64} (hi : i < n) (hn : n ≤ 32) (h : ∀ j, j < i → T j ∧ R j = a0 j ∧ R (32 + j) = a1 j ∧ R (64 + j) = a2 j ∧ R (96 + j) = a3 j) (hT : T i) (h1 : R1 i = a0 i ∧ R1 (32 + i) = a1 i ∧ R1 (64 + i) = a2 i ∧ R1 (96 + i) = a3 i) (h2 : ∀ j, j ≠ i → j ≠ 32 + i → j ≠ 64 + i → j ≠ 96 + i → R1 j = R j) : ∀ j, j < i + 1 → T j ∧ R1 j = a0 j ∧ R1 (32 + j) = a1 j ∧ R1 (64 + j) = a2 j ∧ R1 (96 + j) = a3 j := by
  intro b hb
  rcases Nat.lt_succ_iff_lt_or_eq.mp hb with q | rfl
  · obtain ⟨q0, q1, q2, q3, q4⟩ := h b q
    exact ⟨q0, by rw [h2 _ (by omega) (by omega) (by omega) (by omega)]; exact q1, by rw [h2 _ (by omega) (by omega) (by omega) (by omega)]; exact q2, by rw [h2 _ (by omega) (by omega) (by omega) (by omega)]; exact q3, by rw [h2 _ (by omega) (by omega) (by omega) (by omega)]; exact q4⟩
  · exact ⟨hT, h1⟩
theorem fp_nn {m f part : Int64} (hm : w_in m 1 1000000) (hf : w_in f 0 m) (hp : 0 ≤ part.toInt ∧ part.toInt ≤ 100) : 0 ≤ (f * part).toInt := by
  have h1 := w_inm hm
  have h2 : 0 ≤ f.toInt := Int64.le_iff_toInt_le.mp hf.1
  have h3 : f.toInt ≤ m.toInt := Int64.le_iff_toInt_le.mp hf.2
  have a1 : 0 ≤ f.toInt * part.toInt := Int.mul_nonneg h2 hp.1
  have a2 : f.toInt * part.toInt ≤ 1000000 * 100 := Int.mul_le_mul (by omega) hp.2 hp.1 (by omega)
  rw [fb_mulL (by omega) (by omega)]
  exact a1

set_option maxHeartbeats 4000000 in
set_option maxRecDepth 100000 in
theorem c_M_isGood (l : Launch) (D : va_G) (ct : Nat → ClassId) (st : Nat → Nat) (am : Nat → Nat) (th : Int32) (bu : Int64) (he : Int64) (R : Nat → Int64) (k : Nat) (hk : k < 32) : Met l y_M_isGood (wsy y_M_isGood b_M_isGood 5 (some .boolean)) (k2_rm 2 50) (PcR D ct st [.ref (am 0), .int (nI k)] [((am 0), .inr (8, [.int th, .ref (am 1), .ref (am 2), .ref (am 3), .ref (am 4), .ref (am 5), .long bu, .long he, .ref (am 6), .ref (am 7)])), ((am 5), .inl (ct 1, 128, .inr (.inl R)))]) (k2_QcV (.int (bI (w_good (R k) (R (32 + k)) (R (64 + k)) (R (96 + k)))))) 0 0 (fun _ => False) := by
  refine enterR (by decide) (Nat.le_of_ble_eq_true rfl) ?_
  intro p e s m args below meth c ls hx hb hr hml hown hts hlk hP hE hV hS hl
  have hl : lv_has ls 5 [(0, .ref (am 0)), (1, .int (nI k))] := hl
  refine lv_aload_n hx hb d_M_isGood_0 rfl (lv_at hl 0 rfl) ?_
  refine q_get 0 5 i_M rfl hx hb hts hown hE hP rfl (by decide) x_941 rfl d_M_isGood_1 ?_
  refine lv_iload_n hx hb d_M_isGood_4 rfl (lv_at hl 1 rfl) ?_
  refine q_lald (k := k) 1 hx hb hE hP rfl rfl (by omega) (by decide) d_M_isGood_5 ?_
  refine lv_lstore_n (lv' := [(2, .long (R k)), (0, .ref (am 0)), (1, .int (nI k))]) hx hb d_M_isGood_6 rfl hl (by decide) rfl (fun ls hl => ?_)
  refine lv_lload_n hx hb d_M_isGood_7 rfl (lv_at hl 0 rfl) ?_
  refine lv_lconst (v := 1) hx hb d_M_isGood_8 (by decide) ?_
  refine lv_ldc2 (v := 1000000) hx hb hown (hts _ (List.mem_cons_of_mem _ x_993)) d_M_isGood_9 ?_
  refine cRS (As := [.long (R k), .long 1, .long 1000000]) (rest := []) K_M_in x_978 hx hb hml hown hts hE hV hS (c_M_in l D ct st (R k) 1 1000000) (fun k q h => by simp at h) rfl hl.1 rfl (Nat.le_of_ble_eq_true rfl) d_M_isGood_12 (Nat.le_of_ble_eq_true rfl) (Nat.le_of_ble_eq_true rfl) ⟨Nat.zero_le _, Nat.zero_le _⟩ ?_
  refine q_ifeq_b (tgt := 55) hx hb d_M_isGood_15 (by decide) (fun h_15 => ?_) (fun h_15 => ?_)
  · refine lv_iconst (v := 0) hx hb d_M_isGood_55 (by decide) ?_
    refine lv_istore (lv' := [(4, .int 0), (2, .long (R k)), (0, .ref (am 0)), (1, .int (nI k))]) hx hb d_M_isGood_56 hl (by decide) rfl (fun ls hl => ?_)
    refine lv_iload hx hb d_M_isGood_58 (lv_at hl 0 rfl) ?_
    refine lv_if_eq (tgt := 94) hx hb d_M_isGood_60 (by decide) (fun _ => ?_) (fun h => absurd h (by decide))
    refine lv_iconst (v := 0) hx hb d_M_isGood_94 (by decide) ?_
    exact rR_z hx hb hr hlk d_M_isGood_95 (bI_0 (by first | exact ⟨h_15, h_32, Int64.not_lt.mp h_48, Int64.not_lt.mp h_87⟩ | exact fun z => h_15 z.1 | exact fun z => h_32 z.2.1 | exact fun z => absurd h_48 (Int64.not_lt.mpr z.2.2.1) | exact fun z => absurd h_87 (Int64.not_lt.mpr z.2.2.2)))
  · refine lv_aload_n hx hb d_M_isGood_18 rfl (lv_at hl 1 rfl) ?_
    refine q_get 0 5 i_M rfl hx hb hts hown hE hP rfl (by decide) x_941 rfl d_M_isGood_19 ?_
    refine lv_bipush (v := 96) hx hb d_M_isGood_22 (by decide) ?_
    refine lv_iload_n hx hb d_M_isGood_24 rfl (lv_at hl 2 rfl) ?_
    refine q_iadd (v := nI (96 + k)) hx hb d_M_isGood_25 (nI_add 96 k) ?_
    refine q_lald (k := 96 + k) 1 hx hb hE hP rfl rfl (by omega) (by decide) d_M_isGood_26 ?_
    refine lv_lconst (v := 0) hx hb d_M_isGood_27 (by decide) ?_
    refine lv_lload_n hx hb d_M_isGood_28 rfl (lv_at hl 0 rfl) ?_
    refine cRS (As := [.long (R (96 + k)), .long 0, .long (R k)]) (rest := []) K_M_in x_978 hx hb hml hown hts hE hV hS (c_M_in l D ct st (R (96 + k)) 0 (R k)) (fun k q h => by simp at h) rfl hl.1 rfl (Nat.le_of_ble_eq_true rfl) d_M_isGood_29 (Nat.le_of_ble_eq_true rfl) (Nat.le_of_ble_eq_true rfl) ⟨Nat.zero_le _, Nat.zero_le _⟩ ?_
    refine q_ifeq_b (tgt := 55) hx hb d_M_isGood_32 (by decide) (fun h_32 => ?_) (fun h_32 => ?_)
    · refine lv_iconst (v := 0) hx hb d_M_isGood_55 (by decide) ?_
      refine lv_istore (lv' := [(4, .int 0), (2, .long (R k)), (0, .ref (am 0)), (1, .int (nI k))]) hx hb d_M_isGood_56 hl (by decide) rfl (fun ls hl => ?_)
      refine lv_iload hx hb d_M_isGood_58 (lv_at hl 0 rfl) ?_
      refine lv_if_eq (tgt := 94) hx hb d_M_isGood_60 (by decide) (fun _ => ?_) (fun h => absurd h (by decide))
      refine lv_iconst (v := 0) hx hb d_M_isGood_94 (by decide) ?_
      exact rR_z hx hb hr hlk d_M_isGood_95 (bI_0 (by first | exact ⟨h_15, h_32, Int64.not_lt.mp h_48, Int64.not_lt.mp h_87⟩ | exact fun z => h_15 z.1 | exact fun z => h_32 z.2.1 | exact fun z => absurd h_48 (Int64.not_lt.mpr z.2.2.1) | exact fun z => absurd h_87 (Int64.not_lt.mpr z.2.2.2)))
    · refine lv_aload_n hx hb d_M_isGood_35 rfl (lv_at hl 1 rfl) ?_
      refine q_get 0 5 i_M rfl hx hb hts hown hE hP rfl (by decide) x_941 rfl d_M_isGood_36 ?_
      refine lv_bipush (v := 64) hx hb d_M_isGood_39 (by decide) ?_
      refine lv_iload_n hx hb d_M_isGood_41 rfl (lv_at hl 2 rfl) ?_
      refine q_iadd (v := nI (64 + k)) hx hb d_M_isGood_42 (nI_add 64 k) ?_
      refine q_lald (k := 64 + k) 1 hx hb hE hP rfl rfl (by omega) (by decide) d_M_isGood_43 ?_
      refine lv_ldc2 (v := 1000000000) hx hb hown (hts _ (List.mem_cons_of_mem _ x_996)) d_M_isGood_44 ?_
      refine W.lcmp hx hb d_M_isGood_47 ?_
      refine q_cmp_gt (tgt := 55) hx hb d_M_isGood_48 (by decide) (fun h_48 => ?_) (fun h_48 => ?_)
      · refine lv_iconst (v := 0) hx hb d_M_isGood_55 (by decide) ?_
        refine lv_istore (lv' := [(4, .int 0), (2, .long (R k)), (0, .ref (am 0)), (1, .int (nI k))]) hx hb d_M_isGood_56 hl (by decide) rfl (fun ls hl => ?_)
        refine lv_iload hx hb d_M_isGood_58 (lv_at hl 0 rfl) ?_
        refine lv_if_eq (tgt := 94) hx hb d_M_isGood_60 (by decide) (fun _ => ?_) (fun h => absurd h (by decide))
        refine lv_iconst (v := 0) hx hb d_M_isGood_94 (by decide) ?_
        exact rR_z hx hb hr hlk d_M_isGood_95 (bI_0 (by first | exact ⟨h_15, h_32, Int64.not_lt.mp h_48, Int64.not_lt.mp h_87⟩ | exact fun z => h_15 z.1 | exact fun z => h_32 z.2.1 | exact fun z => absurd h_48 (Int64.not_lt.mpr z.2.2.1) | exact fun z => absurd h_87 (Int64.not_lt.mpr z.2.2.2)))
      · refine lv_iconst (v := 1) hx hb d_M_isGood_51 (by decide) ?_
        refine lv_goto (tgt := 56) hx hb d_M_isGood_52 (by decide) ?_
        refine lv_istore (lv' := [(4, .int 1), (2, .long (R k)), (0, .ref (am 0)), (1, .int (nI k))]) hx hb d_M_isGood_56 hl (by decide) rfl (fun ls hl => ?_)
        refine lv_iload hx hb d_M_isGood_58 (lv_at hl 0 rfl) ?_
        refine lv_if_eq (tgt := 94) hx hb d_M_isGood_60 (by decide) (fun h => absurd h (by decide)) (fun _ => ?_)
        refine lv_lload_n hx hb d_M_isGood_63 rfl (lv_at hl 1 rfl) ?_
        refine lv_aload_n hx hb d_M_isGood_64 rfl (lv_at hl 2 rfl) ?_
        refine q_get 0 5 i_M rfl hx hb hts hown hE hP rfl (by decide) x_941 rfl d_M_isGood_65 ?_
        refine lv_bipush (v := 32) hx hb d_M_isGood_68 (by decide) ?_
        refine lv_iload_n hx hb d_M_isGood_70 rfl (lv_at hl 3 rfl) ?_
        refine q_iadd (v := nI (32 + k)) hx hb d_M_isGood_71 (nI_add 32 k) ?_
        refine q_lald (k := 32 + k) 1 hx hb hE hP rfl rfl (by omega) (by decide) d_M_isGood_72 ?_
        refine lv_aload_n hx hb d_M_isGood_73 rfl (lv_at hl 2 rfl) ?_
        refine q_get 0 5 i_M rfl hx hb hts hown hE hP rfl (by decide) x_941 rfl d_M_isGood_74 ?_
        refine lv_bipush (v := 64) hx hb d_M_isGood_77 (by decide) ?_
        refine lv_iload_n hx hb d_M_isGood_79 rfl (lv_at hl 3 rfl) ?_
        refine q_iadd (v := nI (64 + k)) hx hb d_M_isGood_80 (nI_add 64 k) ?_
        refine q_lald (k := 64 + k) 1 hx hb hE hP rfl rfl (by omega) (by decide) d_M_isGood_81 ?_
        refine cRS (As := [.long (R k), .long (R (32 + k)), .long (R (64 + k))]) (rest := []) K_M_within x_997 hx hb hml hown hts hE hV hS (c_M_within l D ct st (R k) (R (32 + k)) (R (64 + k)) (w_inm h_15)) (fun k q h => by simp at h) rfl hl.1 rfl (Nat.le_of_ble_eq_true rfl) d_M_isGood_82 (Nat.le_of_ble_eq_true rfl) (Nat.le_of_ble_eq_true rfl) ⟨Nat.zero_le _, Nat.zero_le _⟩ ?_
        refine lv_lconst (v := 0) hx hb d_M_isGood_85 (by decide) ?_
        refine W.lcmp hx hb d_M_isGood_86 ?_
        refine q_cmp_lt (tgt := 94) hx hb d_M_isGood_87 (by decide) (fun h_87 => ?_) (fun h_87 => ?_)
        · refine lv_iconst (v := 0) hx hb d_M_isGood_94 (by decide) ?_
          exact rR_z hx hb hr hlk d_M_isGood_95 (bI_0 (by first | exact ⟨h_15, h_32, Int64.not_lt.mp h_48, Int64.not_lt.mp h_87⟩ | exact fun z => h_15 z.1 | exact fun z => h_32 z.2.1 | exact fun z => absurd h_48 (Int64.not_lt.mpr z.2.2.1) | exact fun z => absurd h_87 (Int64.not_lt.mpr z.2.2.2)))
        · refine lv_iconst (v := 1) hx hb d_M_isGood_90 (by decide) ?_
          refine lv_goto (tgt := 95) hx hb d_M_isGood_91 (by decide) ?_
          exact rR_z hx hb hr hlk d_M_isGood_95 (bI_1 (by first | exact ⟨h_15, h_32, Int64.not_lt.mp h_48, Int64.not_lt.mp h_87⟩ | exact fun z => h_15 z.1 | exact fun z => h_32 z.2.1 | exact fun z => absurd h_48 (Int64.not_lt.mpr z.2.2.1) | exact fun z => absurd h_87 (Int64.not_lt.mpr z.2.2.2)))
set_option maxHeartbeats 4000000 in
set_option maxRecDepth 100000 in
theorem c_M_stepped (l : Launch) (D : va_G) (ct : Nat → ClassId) (st : Nat → Nat) (am : Nat → Nat) (th : Int32) (bu : Int64) (he : Int64) (S : Nat → Int64) (G : Nat → Int64) (R : Nat → Int64) (g : Nat) (n : Nat) (lft : Nat) (rgt : Nat) (t : Int64) (hT : TS S g n lft rgt) (sz : Nat) : Met l y_M_stepped (wsy y_M_stepped b_M_stepped 9 (some .boolean)) (rmW 7 0 0 183) (PcW D ct st [.ref (am 0), .long t] [((am 0), .inr (8, [.int th, .ref (am 1), .ref (am 2), .ref (am 3), .ref (am 4), .ref (am 5), .long bu, .long he, .ref (am 6), .ref (am 7)])), ((am 1), .inl (ct 1, 334, .inr (.inl S))), ((am 4), .inl (ct 1, 132, .inr (.inl G))), ((am 5), .inl (ct 1, 128, .inr (.inl R)))] sz) (QcW D [((am 0), .inr (8, [.int th, .ref (am 1), .ref (am 2), .ref (am 3), .ref (am 4), .ref (am 5), .long bu, .long he, .ref (am 6), .ref (am 7)])), ((am 1), .inl (ct 1, 334, .inr (.inl S))), ((am 4), .inl (ct 1, 132, .inr (.inl G))), ((am 5), .inl (ct 1, 128, .inr (.inl R)))] sz (fun v W1 => ∃ (bu1 : Int64) (he1 : Int64) (goes1 : Nat → Int64) (fresh1 : Nat → Int64), v = some (.int (bI (w_ok t g (sM S) (sP S) (sE S) (sF S) n lft rgt (S 1) (S 2) (S 3)))) ∧ W1 = [((am 0), .inr (8, [.int th, .ref (am 1), .ref (am 2), .ref (am 3), .ref (am 4), .ref (am 5), .long bu1, .long he1, .ref (am 6), .ref (am 7)])), ((am 1), .inl (ct 1, 334, .inr (.inl S))), ((am 4), .inl (ct 1, 132, .inr (.inl goes1))), ((am 5), .inl (ct 1, 128, .inr (.inl fresh1)))] ∧ (w_ok t g (sM S) (sP S) (sE S) (sF S) n lft rgt (S 1) (S 2) (S 3) → (∀ b, b ≤ n → goes1 b = w_g0 t g (sM S) (sP S) (sE S) n lft rgt b ∧ goes1 (33 + b) = w_g1 t g (sM S) (sP S) (sE S) n lft rgt b ∧ goes1 (66 + b) = w_g2 t g (sM S) (sP S) (sE S) n lft rgt b ∧ goes1 (99 + b) = w_g3 t g (sM S) (sP S) (sE S) (sF S) n lft rgt b) ∧ (∀ j, j < n → fresh1 j = w_f0 t g (sM S) (sP S) (sE S) (sF S) n lft rgt j ∧ fresh1 (32 + j) = w_f1 t g (sM S) (sP S) (sE S) (sF S) n lft rgt j ∧ fresh1 (64 + j) = w_e2 t g (sM S) (sP S) (sE S) (sF S) n lft rgt (S 1) (S 2) (S 3) j ∧ fresh1 (96 + j) = w_f4 t g (sM S) (sP S) (sE S) (sF S) n lft rgt (S 1) (S 2) j) ∧ bu1 = w_sum (w_gn t g (sM S) (sP S) (sE S) (sF S) n lft rgt (S 1) (S 2)) n ∧ he1 = w_sum (fun j => w_gn t g (sM S) (sP S) (sE S) (sF S) n lft rgt (S 1) (S 2) j * S 3) n))) 0 0 (va_A [((am 0), .inr (8, [.int th, .ref (am 1), .ref (am 2), .ref (am 3), .ref (am 4), .ref (am 5), .long bu, .long he, .ref (am 6), .ref (am 7)])), ((am 1), .inl (ct 1, 334, .inr (.inl S))), ((am 4), .inl (ct 1, 132, .inr (.inl G))), ((am 5), .inl (ct 1, 128, .inr (.inl R)))] sz) := by
  refine enterW (by decide) (Nat.le_of_ble_eq_true rfl) ?_
  intro p e s m args below meth c ls A hx hb hr hml hown hts hlk hin hsz hAe hP hD hA hE hV hS hl
  have hl : lv_has ls 9 [(0, .ref (am 0)), (1, .long t)] := hl
  obtain ⟨hg, hS0, ⟨hn2, hn⟩, hS4, ⟨hl1, hS5⟩, ⟨hr1, hS6⟩, hpt, hht, hok⟩ := id hT
  refine lv_aload_n hx hb d_M_stepped_0 rfl (lv_at hl 0 rfl) ?_
  refine q_get 0 1 i_M rfl hx hb hts hown hE hP rfl (by decide) x_937 rfl d_M_stepped_1 ?_
  refine lv_iconst (v := 4) hx hb d_M_stepped_4 (by decide) ?_
  refine q_lald (k := 4) 1 hx hb hE hP rfl rfl (by omega) (by decide) d_M_stepped_5 ?_
  refine q_topl (v := lN n) (hS4) ?_
  refine lv_l2i (v := nI n) hx hb d_M_stepped_6 (lN_i _) ?_
  refine lv_istore_n (lv' := [(3, .int (nI n)), (0, .ref (am 0)), (1, .long t)]) hx hb d_M_stepped_7 rfl hl (by decide) rfl (fun ls hl => ?_)
  refine lv_iconst (v := 0) hx hb d_M_stepped_8 (by decide) ?_
  refine lv_istore (lv' := [(4, .int 0), (3, .int (nI n)), (0, .ref (am 0)), (1, .long t)]) hx hb d_M_stepped_9 hl (by decide) rfl (fun ls hl => ?_)
  have loop_11 : ∀ (n9 : Nat) (k : Nat) (G1 : Nat → Int64) (hk : k ≤ n + 1) (hG : ∀ b, b < k → t * w_pace g (sM S) (sP S) (sE S) n lft rgt b ≤ 500000 ∧ G1 b = w_g0 t g (sM S) (sP S) (sE S) n lft rgt b ∧ G1 (33 + b) = w_g1 t g (sM S) (sP S) (sE S) n lft rgt b ∧ G1 (66 + b) = w_g2 t g (sM S) (sP S) (sE S) n lft rgt b ∧ G1 (99 + b) = w_g3 t g (sM S) (sP S) (sE S) (sF S) n lft rgt b) (hn9 : n + 1 - k < n9) (H : Heap) (locs : List Loc) (ls : Array Slot), va_P D classes [((am 0), .inr (8, [.int th, .ref (am 1), .ref (am 2), .ref (am 3), .ref (am 4), .ref (am 5), .long bu, .long he, .ref (am 6), .ref (am 7)])), ((am 1), .inl (ct 1, 334, .inr (.inl S))), ((am 4), .inl (ct 1, 132, .inr (.inl G1))), ((am 5), .inl (ct 1, 128, .inr (.inl R)))] H → va_D A [((am 0), .inr (8, [.int th, .ref (am 1), .ref (am 2), .ref (am 3), .ref (am 4), .ref (am 5), .long bu, .long he, .ref (am 6), .ref (am 7)])), ((am 1), .inl (ct 1, 334, .inr (.inl S))), ((am 4), .inl (ct 1, 132, .inr (.inl G1))), ((am 5), .inl (ct 1, 128, .inr (.inl R)))] → va_S A s.heap H locs → lv_has ls 9 [(0, .ref (am 0)), (1, .long t), (3, .int (nI n)), (4, .int (nI k))] → W p l e (rmW 7 0 0 183) s m args below meth c H locs (0) (0) (MQ below (QcW D [((am 0), .inr (8, [.int th, .ref (am 1), .ref (am 2), .ref (am 3), .ref (am 4), .ref (am 5), .long bu, .long he, .ref (am 6), .ref (am 7)])), ((am 1), .inl (ct 1, 334, .inr (.inl S))), ((am 4), .inl (ct 1, 132, .inr (.inl G))), ((am 5), .inl (ct 1, 128, .inr (.inl R)))] sz (fun v W1 => ∃ (bu1 : Int64) (he1 : Int64) (goes1 : Nat → Int64) (fresh1 : Nat → Int64), v = some (.int (bI (w_ok t g (sM S) (sP S) (sE S) (sF S) n lft rgt (S 1) (S 2) (S 3)))) ∧ W1 = [((am 0), .inr (8, [.int th, .ref (am 1), .ref (am 2), .ref (am 3), .ref (am 4), .ref (am 5), .long bu1, .long he1, .ref (am 6), .ref (am 7)])), ((am 1), .inl (ct 1, 334, .inr (.inl S))), ((am 4), .inl (ct 1, 132, .inr (.inl goes1))), ((am 5), .inl (ct 1, 128, .inr (.inl fresh1)))] ∧ (w_ok t g (sM S) (sP S) (sE S) (sF S) n lft rgt (S 1) (S 2) (S 3) → (∀ b, b ≤ n → goes1 b = w_g0 t g (sM S) (sP S) (sE S) n lft rgt b ∧ goes1 (33 + b) = w_g1 t g (sM S) (sP S) (sE S) n lft rgt b ∧ goes1 (66 + b) = w_g2 t g (sM S) (sP S) (sE S) n lft rgt b ∧ goes1 (99 + b) = w_g3 t g (sM S) (sP S) (sE S) (sF S) n lft rgt b) ∧ (∀ j, j < n → fresh1 j = w_f0 t g (sM S) (sP S) (sE S) (sF S) n lft rgt j ∧ fresh1 (32 + j) = w_f1 t g (sM S) (sP S) (sE S) (sF S) n lft rgt j ∧ fresh1 (64 + j) = w_e2 t g (sM S) (sP S) (sE S) (sF S) n lft rgt (S 1) (S 2) (S 3) j ∧ fresh1 (96 + j) = w_f4 t g (sM S) (sP S) (sE S) (sF S) n lft rgt (S 1) (S 2) j) ∧ bu1 = w_sum (w_gn t g (sM S) (sP S) (sE S) (sF S) n lft rgt (S 1) (S 2)) n ∧ he1 = w_sum (fun j => w_gn t g (sM S) (sP S) (sE S) (sF S) n lft rgt (S 1) (S 2) j * S 3) n))) args s 0 0 A) (F0 m 11 ls []) := by
    intro n9
    induction n9 with
    | zero => intro k G1 hk hG hn9 H locs ls hP hD hS hl; exact absurd hn9 (Nat.not_lt_zero _)
    | succ n9 ih_11 =>
      intro k G1 hk hG hn9 H locs ls hP hD hS hl
      refine lv_iload hx hb d_M_stepped_11 (lv_at hl 3 rfl) ?_
      refine lv_iload_n hx hb d_M_stepped_13 rfl (lv_at hl 2 rfl) ?_
      refine q_icmp_gt_n (a := k) (b := n) (tgt := 35) hx hb d_M_stepped_14 (by decide) rfl rfl (by omega) (by omega) (fun h_14 => ?_) (fun h_14 => ?_)
      · have hGn : ∀ b, b ≤ n → G1 b = w_g0 t g (sM S) (sP S) (sE S) n lft rgt b ∧ G1 (33 + b) = w_g1 t g (sM S) (sP S) (sE S) n lft rgt b ∧ G1 (66 + b) = w_g2 t g (sM S) (sP S) (sE S) n lft rgt b ∧ G1 (99 + b) = w_g3 t g (sM S) (sP S) (sE S) (sF S) n lft rgt b := fun b hb => (hG b (by omega)).2
        have hGp : ∀ b, b ≤ n → t * w_pace g (sM S) (sP S) (sE S) n lft rgt b ≤ 500000 := fun b hb => (hG b (by omega)).1
        refine lv_aload_n hx hb d_M_stepped_35 rfl (lv_at hl 0 rfl) ?_
        refine lv_lconst (v := 0) hx hb d_M_stepped_36 (by decide) ?_
        refine q_put (ty := .long) 0 6 (ws1 := [((am 0), .inr (8, [.int th, .ref (am 1), .ref (am 2), .ref (am 3), .ref (am 4), .ref (am 5), .long 0, .long he, .ref (am 6), .ref (am 7)])), ((am 1), .inl (ct 1, 334, .inr (.inl S))), ((am 4), .inl (ct 1, 132, .inr (.inl G1))), ((am 5), .inl (ct 1, 128, .inr (.inl R)))]) t_M i_M t_M_ok n_M rfl hx hb hts hown hE hP hD hS rfl (by decide) x_942 rfl (by decide +kernel) (rfl) rfl (Nat.le_of_ble_eq_true rfl) rfl d_M_stepped_37 (fun H locs hP hD hS => ?_)
        refine lv_aload_n hx hb d_M_stepped_40 rfl (lv_at hl 0 rfl) ?_
        refine lv_lconst (v := 0) hx hb d_M_stepped_41 (by decide) ?_
        refine q_put (ty := .long) 0 7 (ws1 := [((am 0), .inr (8, [.int th, .ref (am 1), .ref (am 2), .ref (am 3), .ref (am 4), .ref (am 5), .long 0, .long 0, .ref (am 6), .ref (am 7)])), ((am 1), .inl (ct 1, 334, .inr (.inl S))), ((am 4), .inl (ct 1, 132, .inr (.inl G1))), ((am 5), .inl (ct 1, 128, .inr (.inl R)))]) t_M i_M t_M_ok n_M rfl hx hb hts hown hE hP hD hS rfl (by decide) x_943 rfl (by decide +kernel) (rfl) rfl (Nat.le_of_ble_eq_true rfl) rfl d_M_stepped_42 (fun H locs hP hD hS => ?_)
        refine lv_iconst (v := 0) hx hb d_M_stepped_45 (by decide) ?_
        refine lv_istore (lv' := [(4, .int 0), (0, .ref (am 0)), (1, .long t), (3, .int (nI n))]) hx hb d_M_stepped_46 hl (by decide) rfl (fun ls hl => ?_)
        have loop_48 : ∀ (n9 : Nat) (i : Nat) (R1 : Nat → Int64) (b1 : Int64) (h1 : Int64) (hi : i ≤ n) (hR : ∀ j, j < i → (w_good (w_f0 t g (sM S) (sP S) (sE S) (sF S) n lft rgt j) (w_f1 t g (sM S) (sP S) (sE S) (sF S) n lft rgt j) (w_f2 t g (sM S) (sP S) (sE S) (sF S) n lft rgt j) (w_f3 t g (sM S) (sP S) (sE S) (sF S) n lft rgt j) ∧ w_good (w_f0 t g (sM S) (sP S) (sE S) (sF S) n lft rgt j) (w_f1 t g (sM S) (sP S) (sE S) (sF S) n lft rgt j) (w_e2 t g (sM S) (sP S) (sE S) (sF S) n lft rgt (S 1) (S 2) (S 3) j) (w_f4 t g (sM S) (sP S) (sE S) (sF S) n lft rgt (S 1) (S 2) j)) ∧ R1 j = w_f0 t g (sM S) (sP S) (sE S) (sF S) n lft rgt j ∧ R1 (32 + j) = w_f1 t g (sM S) (sP S) (sE S) (sF S) n lft rgt j ∧ R1 (64 + j) = w_e2 t g (sM S) (sP S) (sE S) (sF S) n lft rgt (S 1) (S 2) (S 3) j ∧ R1 (96 + j) = w_f4 t g (sM S) (sP S) (sE S) (sF S) n lft rgt (S 1) (S 2) j) (hbu : b1 = w_sum (w_gn t g (sM S) (sP S) (sE S) (sF S) n lft rgt (S 1) (S 2)) i) (hhe : h1 = w_sum (fun j => w_gn t g (sM S) (sP S) (sE S) (sF S) n lft rgt (S 1) (S 2) j * S 3) i) (hn9 : n - i < n9) (H : Heap) (locs : List Loc) (ls : Array Slot), va_P D classes [((am 0), .inr (8, [.int th, .ref (am 1), .ref (am 2), .ref (am 3), .ref (am 4), .ref (am 5), .long b1, .long h1, .ref (am 6), .ref (am 7)])), ((am 1), .inl (ct 1, 334, .inr (.inl S))), ((am 4), .inl (ct 1, 132, .inr (.inl G1))), ((am 5), .inl (ct 1, 128, .inr (.inl R1)))] H → va_D A [((am 0), .inr (8, [.int th, .ref (am 1), .ref (am 2), .ref (am 3), .ref (am 4), .ref (am 5), .long b1, .long h1, .ref (am 6), .ref (am 7)])), ((am 1), .inl (ct 1, 334, .inr (.inl S))), ((am 4), .inl (ct 1, 132, .inr (.inl G1))), ((am 5), .inl (ct 1, 128, .inr (.inl R1)))] → va_S A s.heap H locs → lv_has ls 9 [(0, .ref (am 0)), (1, .long t), (3, .int (nI n)), (4, .int (nI i))] → W p l e (rmW 7 0 0 183) s m args below meth c H locs (0) (0) (MQ below (QcW D [((am 0), .inr (8, [.int th, .ref (am 1), .ref (am 2), .ref (am 3), .ref (am 4), .ref (am 5), .long bu, .long he, .ref (am 6), .ref (am 7)])), ((am 1), .inl (ct 1, 334, .inr (.inl S))), ((am 4), .inl (ct 1, 132, .inr (.inl G))), ((am 5), .inl (ct 1, 128, .inr (.inl R)))] sz (fun v W1 => ∃ (bu1 : Int64) (he1 : Int64) (goes1 : Nat → Int64) (fresh1 : Nat → Int64), v = some (.int (bI (w_ok t g (sM S) (sP S) (sE S) (sF S) n lft rgt (S 1) (S 2) (S 3)))) ∧ W1 = [((am 0), .inr (8, [.int th, .ref (am 1), .ref (am 2), .ref (am 3), .ref (am 4), .ref (am 5), .long bu1, .long he1, .ref (am 6), .ref (am 7)])), ((am 1), .inl (ct 1, 334, .inr (.inl S))), ((am 4), .inl (ct 1, 132, .inr (.inl goes1))), ((am 5), .inl (ct 1, 128, .inr (.inl fresh1)))] ∧ (w_ok t g (sM S) (sP S) (sE S) (sF S) n lft rgt (S 1) (S 2) (S 3) → (∀ b, b ≤ n → goes1 b = w_g0 t g (sM S) (sP S) (sE S) n lft rgt b ∧ goes1 (33 + b) = w_g1 t g (sM S) (sP S) (sE S) n lft rgt b ∧ goes1 (66 + b) = w_g2 t g (sM S) (sP S) (sE S) n lft rgt b ∧ goes1 (99 + b) = w_g3 t g (sM S) (sP S) (sE S) (sF S) n lft rgt b) ∧ (∀ j, j < n → fresh1 j = w_f0 t g (sM S) (sP S) (sE S) (sF S) n lft rgt j ∧ fresh1 (32 + j) = w_f1 t g (sM S) (sP S) (sE S) (sF S) n lft rgt j ∧ fresh1 (64 + j) = w_e2 t g (sM S) (sP S) (sE S) (sF S) n lft rgt (S 1) (S 2) (S 3) j ∧ fresh1 (96 + j) = w_f4 t g (sM S) (sP S) (sE S) (sF S) n lft rgt (S 1) (S 2) j) ∧ bu1 = w_sum (w_gn t g (sM S) (sP S) (sE S) (sF S) n lft rgt (S 1) (S 2)) n ∧ he1 = w_sum (fun j => w_gn t g (sM S) (sP S) (sE S) (sF S) n lft rgt (S 1) (S 2) j * S 3) n))) args s 0 0 A) (F0 m 48 ls []) := by
          intro n9
          induction n9 with
          | zero => intro i R1 b1 h1 hi hR hbu hhe hn9 H locs ls hP hD hS hl; exact absurd hn9 (Nat.not_lt_zero _)
          | succ n9 ih_48 =>
            intro i R1 b1 h1 hi hR hbu hhe hn9 H locs ls hP hD hS hl
            refine lv_iload hx hb d_M_stepped_48 (lv_at hl 3 rfl) ?_
            refine lv_iload_n hx hb d_M_stepped_50 rfl (lv_at hl 2 rfl) ?_
            refine q_icmp_ge_n (a := i) (b := n) (tgt := 299) hx hb d_M_stepped_51 (by decide) rfl rfl (by omega) (by omega) (fun h_51 => ?_) (fun h_51 => ?_)
            · refine lv_iconst (v := 1) hx hb d_M_stepped_299 (by decide) ?_
              exact rW_z (P := w_ok t g (sM S) (sP S) (sE S) (sF S) n lft rgt (S 1) (S 2) (S 3)) hx hb hr hlk hAe hS hP hD (Nat.le_of_ble_eq_true rfl) (Nat.le_of_ble_eq_true rfl) d_M_stepped_300 (bI_1 (⟨hGp, fun j hj => (hR j (by omega)).1⟩)) ⟨b1, h1, G1, R1, rfl, rfl, fun _ => ⟨hGn, fun j hj => (hR j (by omega)).2, by rw [hbu, show i = n by omega], by rw [hhe, show i = n by omega]⟩⟩
            · refine lv_iconst (v := 0) hx hb d_M_stepped_54 (by decide) ?_
              refine lv_istore (lv' := [(5, .int 0), (0, .ref (am 0)), (1, .long t), (3, .int (nI n)), (4, .int (nI i))]) hx hb d_M_stepped_55 hl (by decide) rfl (fun ls hl => ?_)
              refine lv_iload hx hb d_M_stepped_57 (lv_at hl 0 rfl) ?_
              refine lv_iconst (v := 4) hx hb d_M_stepped_59 (by decide) ?_
              refine lv_icmp_ge (tgt := 128) hx hb d_M_stepped_60 (by decide) (fun h => absurd h (by decide)) (fun _ => ?_)
              refine lv_aload_n hx hb d_M_stepped_63 rfl (lv_at hl 1 rfl) ?_
              refine q_get 0 5 i_M rfl hx hb hts hown hE hP rfl (by decide) x_941 rfl d_M_stepped_64 ?_
              refine lv_bipush (v := 32) hx hb d_M_stepped_67 (by decide) ?_
              refine lv_iload hx hb d_M_stepped_69 (lv_at hl 0 rfl) ?_
              refine q_imul (v := 0) hx hb d_M_stepped_71 (by decide) ?_
              refine lv_iload hx hb d_M_stepped_72 (lv_at hl 4 rfl) ?_
              refine q_iadd (v := nI i) hx hb d_M_stepped_74 ((nI_add _ _).trans (congrArg nI (Nat.zero_add _))) ?_
              refine lv_aload_n hx hb d_M_stepped_75 rfl (lv_at hl 1 rfl) ?_
              refine q_get 0 1 i_M rfl hx hb hts hown hE hP rfl (by decide) x_937 rfl d_M_stepped_76 ?_
              refine lv_bipush (v := 8) hx hb d_M_stepped_79 (by decide) ?_
              refine lv_bipush (v := 32) hx hb d_M_stepped_81 (by decide) ?_
              refine lv_iload hx hb d_M_stepped_83 (lv_at hl 0 rfl) ?_
              refine q_imul (v := 0) hx hb d_M_stepped_85 (by decide) ?_
              refine q_iadd (v := 8) hx hb d_M_stepped_86 (by decide) ?_
              refine lv_iload hx hb d_M_stepped_87 (lv_at hl 4 rfl) ?_
              refine q_iadd (v := nI (8 + i)) hx hb d_M_stepped_89 (nI_add 8 i) ?_
              refine q_lald (k := 8 + i) 1 hx hb hE hP rfl rfl (by omega) (by decide) d_M_stepped_90 ?_
              refine lv_aload_n hx hb d_M_stepped_91 rfl (lv_at hl 1 rfl) ?_
              refine q_get 0 4 i_M rfl hx hb hts hown hE hP rfl (by decide) x_940 rfl d_M_stepped_92 ?_
              refine lv_bipush (v := 33) hx hb d_M_stepped_95 (by decide) ?_
              refine lv_iload hx hb d_M_stepped_97 (lv_at hl 0 rfl) ?_
              refine q_imul (v := 0) hx hb d_M_stepped_99 (by decide) ?_
              refine lv_iload hx hb d_M_stepped_100 (lv_at hl 4 rfl) ?_
              refine q_iadd (v := nI i) hx hb d_M_stepped_102 ((nI_add _ _).trans (congrArg nI (Nat.zero_add _))) ?_
              refine q_lald (k := i) 2 hx hb hE hP rfl rfl (by omega) (by decide) d_M_stepped_103 ?_
              refine lv_ladd hx hb d_M_stepped_104 ?_
              refine lv_aload_n hx hb d_M_stepped_105 rfl (lv_at hl 1 rfl) ?_
              refine q_get 0 4 i_M rfl hx hb hts hown hE hP rfl (by decide) x_940 rfl d_M_stepped_106 ?_
              refine lv_bipush (v := 33) hx hb d_M_stepped_109 (by decide) ?_
              refine lv_iload hx hb d_M_stepped_111 (lv_at hl 0 rfl) ?_
              refine q_imul (v := 0) hx hb d_M_stepped_113 (by decide) ?_
              refine lv_iload hx hb d_M_stepped_114 (lv_at hl 4 rfl) ?_
              refine q_iadd (v := nI i) hx hb d_M_stepped_116 ((nI_add _ _).trans (congrArg nI (Nat.zero_add _))) ?_
              refine lv_iconst (v := 1) hx hb d_M_stepped_117 (by decide) ?_
              refine q_iadd (v := nI (i + 1)) hx hb d_M_stepped_118 (nI_add i 1) ?_
              refine q_lald (k := i + 1) 2 hx hb hE hP rfl rfl (by omega) (by decide) d_M_stepped_119 ?_
              refine lv_lsub hx hb d_M_stepped_120 ?_
              obtain ⟨fresh_1, efresh_1⟩ : ∃ g9 : Nat → Int64, g9 = vp_updL R1 i (((S (8 + i)) + (G1 i)) - (G1 (i + 1))) := ⟨_, rfl⟩
              refine q_last (k := i) 3 (ws1 := [((am 0), .inr (8, [.int th, .ref (am 1), .ref (am 2), .ref (am 3), .ref (am 4), .ref (am 5), .long b1, .long h1, .ref (am 6), .ref (am 7)])), ((am 1), .inl (ct 1, 334, .inr (.inl S))), ((am 4), .inl (ct 1, 132, .inr (.inl G1))), ((am 5), .inl (ct 1, 128, .inr (.inl fresh_1)))]) efresh_1 hx hb hE hP hD hS rfl rfl (by omega) (by decide) rfl d_M_stepped_121 (fun H locs hP hD hS => ?_)
              refine lv_iinc (v := 1) (lv' := [(5, .int 1), (0, .ref (am 0)), (1, .long t), (3, .int (nI n)), (4, .int (nI i))]) hx hb d_M_stepped_122 hl (k := 0) rfl (by decide) (by decide) rfl (fun ls hl => ?_)
              refine lv_goto (tgt := 57) hx hb d_M_stepped_125 (by decide) ?_
              refine lv_iload hx hb d_M_stepped_57 (lv_at hl 0 rfl) ?_
              refine lv_iconst (v := 4) hx hb d_M_stepped_59 (by decide) ?_
              refine lv_icmp_ge (tgt := 128) hx hb d_M_stepped_60 (by decide) (fun h => absurd h (by decide)) (fun _ => ?_)
              refine lv_aload_n hx hb d_M_stepped_63 rfl (lv_at hl 1 rfl) ?_
              refine q_get 0 5 i_M rfl hx hb hts hown hE hP rfl (by decide) x_941 rfl d_M_stepped_64 ?_
              refine lv_bipush (v := 32) hx hb d_M_stepped_67 (by decide) ?_
              refine lv_iload hx hb d_M_stepped_69 (lv_at hl 0 rfl) ?_
              refine q_imul (v := 32) hx hb d_M_stepped_71 (by decide) ?_
              refine lv_iload hx hb d_M_stepped_72 (lv_at hl 4 rfl) ?_
              refine q_iadd (v := nI (32 + i)) hx hb d_M_stepped_74 (nI_add 32 i) ?_
              refine lv_aload_n hx hb d_M_stepped_75 rfl (lv_at hl 1 rfl) ?_
              refine q_get 0 1 i_M rfl hx hb hts hown hE hP rfl (by decide) x_937 rfl d_M_stepped_76 ?_
              refine lv_bipush (v := 8) hx hb d_M_stepped_79 (by decide) ?_
              refine lv_bipush (v := 32) hx hb d_M_stepped_81 (by decide) ?_
              refine lv_iload hx hb d_M_stepped_83 (lv_at hl 0 rfl) ?_
              refine q_imul (v := 32) hx hb d_M_stepped_85 (by decide) ?_
              refine q_iadd (v := 40) hx hb d_M_stepped_86 (by decide) ?_
              refine lv_iload hx hb d_M_stepped_87 (lv_at hl 4 rfl) ?_
              refine q_iadd (v := nI (40 + i)) hx hb d_M_stepped_89 (nI_add 40 i) ?_
              refine q_lald (k := 40 + i) 1 hx hb hE hP rfl rfl (by omega) (by decide) d_M_stepped_90 ?_
              refine lv_aload_n hx hb d_M_stepped_91 rfl (lv_at hl 1 rfl) ?_
              refine q_get 0 4 i_M rfl hx hb hts hown hE hP rfl (by decide) x_940 rfl d_M_stepped_92 ?_
              refine lv_bipush (v := 33) hx hb d_M_stepped_95 (by decide) ?_
              refine lv_iload hx hb d_M_stepped_97 (lv_at hl 0 rfl) ?_
              refine q_imul (v := 33) hx hb d_M_stepped_99 (by decide) ?_
              refine lv_iload hx hb d_M_stepped_100 (lv_at hl 4 rfl) ?_
              refine q_iadd (v := nI (33 + i)) hx hb d_M_stepped_102 (nI_add 33 i) ?_
              refine q_lald (k := 33 + i) 2 hx hb hE hP rfl rfl (by omega) (by decide) d_M_stepped_103 ?_
              refine lv_ladd hx hb d_M_stepped_104 ?_
              refine lv_aload_n hx hb d_M_stepped_105 rfl (lv_at hl 1 rfl) ?_
              refine q_get 0 4 i_M rfl hx hb hts hown hE hP rfl (by decide) x_940 rfl d_M_stepped_106 ?_
              refine lv_bipush (v := 33) hx hb d_M_stepped_109 (by decide) ?_
              refine lv_iload hx hb d_M_stepped_111 (lv_at hl 0 rfl) ?_
              refine q_imul (v := 33) hx hb d_M_stepped_113 (by decide) ?_
              refine lv_iload hx hb d_M_stepped_114 (lv_at hl 4 rfl) ?_
              refine q_iadd (v := nI (33 + i)) hx hb d_M_stepped_116 (nI_add 33 i) ?_
              refine lv_iconst (v := 1) hx hb d_M_stepped_117 (by decide) ?_
              refine q_iadd (v := nI ((33 + i) + 1)) hx hb d_M_stepped_118 (nI_add (33 + i) 1) ?_
              refine q_lald (k := (33 + i) + 1) 2 hx hb hE hP rfl rfl (by omega) (by decide) d_M_stepped_119 ?_
              refine lv_lsub hx hb d_M_stepped_120 ?_
              obtain ⟨fresh_2, efresh_2⟩ : ∃ g9 : Nat → Int64, g9 = vp_updL fresh_1 (32 + i) (((S (40 + i)) + (G1 (33 + i))) - (G1 ((33 + i) + 1))) := ⟨_, rfl⟩
              refine q_last (k := 32 + i) 3 (ws1 := [((am 0), .inr (8, [.int th, .ref (am 1), .ref (am 2), .ref (am 3), .ref (am 4), .ref (am 5), .long b1, .long h1, .ref (am 6), .ref (am 7)])), ((am 1), .inl (ct 1, 334, .inr (.inl S))), ((am 4), .inl (ct 1, 132, .inr (.inl G1))), ((am 5), .inl (ct 1, 128, .inr (.inl fresh_2)))]) efresh_2 hx hb hE hP hD hS rfl rfl (by omega) (by decide) rfl d_M_stepped_121 (fun H locs hP hD hS => ?_)
              refine lv_iinc (v := 2) (lv' := [(5, .int 2), (0, .ref (am 0)), (1, .long t), (3, .int (nI n)), (4, .int (nI i))]) hx hb d_M_stepped_122 hl (k := 0) rfl (by decide) (by decide) rfl (fun ls hl => ?_)
              refine lv_goto (tgt := 57) hx hb d_M_stepped_125 (by decide) ?_
              refine lv_iload hx hb d_M_stepped_57 (lv_at hl 0 rfl) ?_
              refine lv_iconst (v := 4) hx hb d_M_stepped_59 (by decide) ?_
              refine lv_icmp_ge (tgt := 128) hx hb d_M_stepped_60 (by decide) (fun h => absurd h (by decide)) (fun _ => ?_)
              refine lv_aload_n hx hb d_M_stepped_63 rfl (lv_at hl 1 rfl) ?_
              refine q_get 0 5 i_M rfl hx hb hts hown hE hP rfl (by decide) x_941 rfl d_M_stepped_64 ?_
              refine lv_bipush (v := 32) hx hb d_M_stepped_67 (by decide) ?_
              refine lv_iload hx hb d_M_stepped_69 (lv_at hl 0 rfl) ?_
              refine q_imul (v := 64) hx hb d_M_stepped_71 (by decide) ?_
              refine lv_iload hx hb d_M_stepped_72 (lv_at hl 4 rfl) ?_
              refine q_iadd (v := nI (64 + i)) hx hb d_M_stepped_74 (nI_add 64 i) ?_
              refine lv_aload_n hx hb d_M_stepped_75 rfl (lv_at hl 1 rfl) ?_
              refine q_get 0 1 i_M rfl hx hb hts hown hE hP rfl (by decide) x_937 rfl d_M_stepped_76 ?_
              refine lv_bipush (v := 8) hx hb d_M_stepped_79 (by decide) ?_
              refine lv_bipush (v := 32) hx hb d_M_stepped_81 (by decide) ?_
              refine lv_iload hx hb d_M_stepped_83 (lv_at hl 0 rfl) ?_
              refine q_imul (v := 64) hx hb d_M_stepped_85 (by decide) ?_
              refine q_iadd (v := 72) hx hb d_M_stepped_86 (by decide) ?_
              refine lv_iload hx hb d_M_stepped_87 (lv_at hl 4 rfl) ?_
              refine q_iadd (v := nI (72 + i)) hx hb d_M_stepped_89 (nI_add 72 i) ?_
              refine q_lald (k := 72 + i) 1 hx hb hE hP rfl rfl (by omega) (by decide) d_M_stepped_90 ?_
              refine lv_aload_n hx hb d_M_stepped_91 rfl (lv_at hl 1 rfl) ?_
              refine q_get 0 4 i_M rfl hx hb hts hown hE hP rfl (by decide) x_940 rfl d_M_stepped_92 ?_
              refine lv_bipush (v := 33) hx hb d_M_stepped_95 (by decide) ?_
              refine lv_iload hx hb d_M_stepped_97 (lv_at hl 0 rfl) ?_
              refine q_imul (v := 66) hx hb d_M_stepped_99 (by decide) ?_
              refine lv_iload hx hb d_M_stepped_100 (lv_at hl 4 rfl) ?_
              refine q_iadd (v := nI (66 + i)) hx hb d_M_stepped_102 (nI_add 66 i) ?_
              refine q_lald (k := 66 + i) 2 hx hb hE hP rfl rfl (by omega) (by decide) d_M_stepped_103 ?_
              refine lv_ladd hx hb d_M_stepped_104 ?_
              refine lv_aload_n hx hb d_M_stepped_105 rfl (lv_at hl 1 rfl) ?_
              refine q_get 0 4 i_M rfl hx hb hts hown hE hP rfl (by decide) x_940 rfl d_M_stepped_106 ?_
              refine lv_bipush (v := 33) hx hb d_M_stepped_109 (by decide) ?_
              refine lv_iload hx hb d_M_stepped_111 (lv_at hl 0 rfl) ?_
              refine q_imul (v := 66) hx hb d_M_stepped_113 (by decide) ?_
              refine lv_iload hx hb d_M_stepped_114 (lv_at hl 4 rfl) ?_
              refine q_iadd (v := nI (66 + i)) hx hb d_M_stepped_116 (nI_add 66 i) ?_
              refine lv_iconst (v := 1) hx hb d_M_stepped_117 (by decide) ?_
              refine q_iadd (v := nI ((66 + i) + 1)) hx hb d_M_stepped_118 (nI_add (66 + i) 1) ?_
              refine q_lald (k := (66 + i) + 1) 2 hx hb hE hP rfl rfl (by omega) (by decide) d_M_stepped_119 ?_
              refine lv_lsub hx hb d_M_stepped_120 ?_
              obtain ⟨fresh_3, efresh_3⟩ : ∃ g9 : Nat → Int64, g9 = vp_updL fresh_2 (64 + i) (((S (72 + i)) + (G1 (66 + i))) - (G1 ((66 + i) + 1))) := ⟨_, rfl⟩
              refine q_last (k := 64 + i) 3 (ws1 := [((am 0), .inr (8, [.int th, .ref (am 1), .ref (am 2), .ref (am 3), .ref (am 4), .ref (am 5), .long b1, .long h1, .ref (am 6), .ref (am 7)])), ((am 1), .inl (ct 1, 334, .inr (.inl S))), ((am 4), .inl (ct 1, 132, .inr (.inl G1))), ((am 5), .inl (ct 1, 128, .inr (.inl fresh_3)))]) efresh_3 hx hb hE hP hD hS rfl rfl (by omega) (by decide) rfl d_M_stepped_121 (fun H locs hP hD hS => ?_)
              refine lv_iinc (v := 3) (lv' := [(5, .int 3), (0, .ref (am 0)), (1, .long t), (3, .int (nI n)), (4, .int (nI i))]) hx hb d_M_stepped_122 hl (k := 0) rfl (by decide) (by decide) rfl (fun ls hl => ?_)
              refine lv_goto (tgt := 57) hx hb d_M_stepped_125 (by decide) ?_
              refine lv_iload hx hb d_M_stepped_57 (lv_at hl 0 rfl) ?_
              refine lv_iconst (v := 4) hx hb d_M_stepped_59 (by decide) ?_
              refine lv_icmp_ge (tgt := 128) hx hb d_M_stepped_60 (by decide) (fun h => absurd h (by decide)) (fun _ => ?_)
              refine lv_aload_n hx hb d_M_stepped_63 rfl (lv_at hl 1 rfl) ?_
              refine q_get 0 5 i_M rfl hx hb hts hown hE hP rfl (by decide) x_941 rfl d_M_stepped_64 ?_
              refine lv_bipush (v := 32) hx hb d_M_stepped_67 (by decide) ?_
              refine lv_iload hx hb d_M_stepped_69 (lv_at hl 0 rfl) ?_
              refine q_imul (v := 96) hx hb d_M_stepped_71 (by decide) ?_
              refine lv_iload hx hb d_M_stepped_72 (lv_at hl 4 rfl) ?_
              refine q_iadd (v := nI (96 + i)) hx hb d_M_stepped_74 (nI_add 96 i) ?_
              refine lv_aload_n hx hb d_M_stepped_75 rfl (lv_at hl 1 rfl) ?_
              refine q_get 0 1 i_M rfl hx hb hts hown hE hP rfl (by decide) x_937 rfl d_M_stepped_76 ?_
              refine lv_bipush (v := 8) hx hb d_M_stepped_79 (by decide) ?_
              refine lv_bipush (v := 32) hx hb d_M_stepped_81 (by decide) ?_
              refine lv_iload hx hb d_M_stepped_83 (lv_at hl 0 rfl) ?_
              refine q_imul (v := 96) hx hb d_M_stepped_85 (by decide) ?_
              refine q_iadd (v := 104) hx hb d_M_stepped_86 (by decide) ?_
              refine lv_iload hx hb d_M_stepped_87 (lv_at hl 4 rfl) ?_
              refine q_iadd (v := nI (104 + i)) hx hb d_M_stepped_89 (nI_add 104 i) ?_
              refine q_lald (k := 104 + i) 1 hx hb hE hP rfl rfl (by omega) (by decide) d_M_stepped_90 ?_
              refine lv_aload_n hx hb d_M_stepped_91 rfl (lv_at hl 1 rfl) ?_
              refine q_get 0 4 i_M rfl hx hb hts hown hE hP rfl (by decide) x_940 rfl d_M_stepped_92 ?_
              refine lv_bipush (v := 33) hx hb d_M_stepped_95 (by decide) ?_
              refine lv_iload hx hb d_M_stepped_97 (lv_at hl 0 rfl) ?_
              refine q_imul (v := 99) hx hb d_M_stepped_99 (by decide) ?_
              refine lv_iload hx hb d_M_stepped_100 (lv_at hl 4 rfl) ?_
              refine q_iadd (v := nI (99 + i)) hx hb d_M_stepped_102 (nI_add 99 i) ?_
              refine q_lald (k := 99 + i) 2 hx hb hE hP rfl rfl (by omega) (by decide) d_M_stepped_103 ?_
              refine lv_ladd hx hb d_M_stepped_104 ?_
              refine lv_aload_n hx hb d_M_stepped_105 rfl (lv_at hl 1 rfl) ?_
              refine q_get 0 4 i_M rfl hx hb hts hown hE hP rfl (by decide) x_940 rfl d_M_stepped_106 ?_
              refine lv_bipush (v := 33) hx hb d_M_stepped_109 (by decide) ?_
              refine lv_iload hx hb d_M_stepped_111 (lv_at hl 0 rfl) ?_
              refine q_imul (v := 99) hx hb d_M_stepped_113 (by decide) ?_
              refine lv_iload hx hb d_M_stepped_114 (lv_at hl 4 rfl) ?_
              refine q_iadd (v := nI (99 + i)) hx hb d_M_stepped_116 (nI_add 99 i) ?_
              refine lv_iconst (v := 1) hx hb d_M_stepped_117 (by decide) ?_
              refine q_iadd (v := nI ((99 + i) + 1)) hx hb d_M_stepped_118 (nI_add (99 + i) 1) ?_
              refine q_lald (k := (99 + i) + 1) 2 hx hb hE hP rfl rfl (by omega) (by decide) d_M_stepped_119 ?_
              refine lv_lsub hx hb d_M_stepped_120 ?_
              obtain ⟨fresh_4, efresh_4⟩ : ∃ g9 : Nat → Int64, g9 = vp_updL fresh_3 (96 + i) (((S (104 + i)) + (G1 (99 + i))) - (G1 ((99 + i) + 1))) := ⟨_, rfl⟩
              refine q_last (k := 96 + i) 3 (ws1 := [((am 0), .inr (8, [.int th, .ref (am 1), .ref (am 2), .ref (am 3), .ref (am 4), .ref (am 5), .long b1, .long h1, .ref (am 6), .ref (am 7)])), ((am 1), .inl (ct 1, 334, .inr (.inl S))), ((am 4), .inl (ct 1, 132, .inr (.inl G1))), ((am 5), .inl (ct 1, 128, .inr (.inl fresh_4)))]) efresh_4 hx hb hE hP hD hS rfl rfl (by omega) (by decide) rfl d_M_stepped_121 (fun H locs hP hD hS => ?_)
              refine lv_iinc (v := 4) (lv' := [(5, .int 4), (0, .ref (am 0)), (1, .long t), (3, .int (nI n)), (4, .int (nI i))]) hx hb d_M_stepped_122 hl (k := 0) rfl (by decide) (by decide) rfl (fun ls hl => ?_)
              refine lv_goto (tgt := 57) hx hb d_M_stepped_125 (by decide) ?_
              refine lv_iload hx hb d_M_stepped_57 (lv_at hl 0 rfl) ?_
              refine lv_iconst (v := 4) hx hb d_M_stepped_59 (by decide) ?_
              refine lv_icmp_ge (tgt := 128) hx hb d_M_stepped_60 (by decide) (fun _ => ?_) (fun h => absurd h (by decide))
              obtain ⟨ga0, ga1, ga2, ga3⟩ := hGn i (by omega)
              obtain ⟨gb0, gb1, gb2, gb3⟩ := hGn (i + 1) (by omega)
              have hv0 : fresh_4 i = w_f0 t g (sM S) (sP S) (sE S) (sF S) n lft rgt i := by simp (disch := omega) only [efresh_1, efresh_2, efresh_3, efresh_4, pk_uLn, pk_uLs]; unfold w_f0; rw [← ga0, ← gb0]; try rfl
              have hv1 : fresh_4 (32 + i) = w_f1 t g (sM S) (sP S) (sE S) (sF S) n lft rgt i := by simp (disch := omega) only [efresh_1, efresh_2, efresh_3, efresh_4, pk_uLn, pk_uLs]; unfold w_f1; rw [← ga1, ← gb1]; try rfl
              have hv2 : fresh_4 (64 + i) = w_f2 t g (sM S) (sP S) (sE S) (sF S) n lft rgt i := by simp (disch := omega) only [efresh_1, efresh_2, efresh_3, efresh_4, pk_uLn, pk_uLs]; unfold w_f2; rw [← ga2, ← gb2]; try rfl
              have hv3 : fresh_4 (96 + i) = w_f3 t g (sM S) (sP S) (sE S) (sF S) n lft rgt i := by simp (disch := omega) only [efresh_1, efresh_2, efresh_3, efresh_4, pk_uLn, pk_uLs]; unfold w_f3; rw [← ga3, ← gb3]; try rfl
              refine lv_aload_n hx hb d_M_stepped_128 rfl (lv_at hl 1 rfl) ?_
              refine lv_iload hx hb d_M_stepped_129 (lv_at hl 4 rfl) ?_
              refine cRV (As := [.int (nI i)]) (rest := []) (q9 := 0) (ci := 8) K_M_isGood x_1077 hx hb hml hown hts hE hV hS (c_M_isGood l D ct st am th b1 h1 fresh_4 i (by omega)) (hP.sub (ws' := [((am 0), .inr (8, [.int th, .ref (am 1), .ref (am 2), .ref (am 3), .ref (am 4), .ref (am 5), .long b1, .long h1, .ref (am 6), .ref (am 7)])), ((am 5), .inl (ct 1, 128, .inr (.inl fresh_4)))]) [0, 3] rfl) rfl hP rfl rfl hl.1 rfl (Nat.le_of_ble_eq_true rfl) d_M_stepped_131 (Nat.le_of_ble_eq_true rfl) (Nat.le_of_ble_eq_true rfl) ⟨Nat.le_of_ble_eq_true rfl, Nat.le_of_ble_eq_true rfl⟩ ?_
              refine q_topi (v := bI (w_good (w_f0 t g (sM S) (sP S) (sE S) (sF S) n lft rgt i) (w_f1 t g (sM S) (sP S) (sE S) (sF S) n lft rgt i) (w_f2 t g (sM S) (sP S) (sE S) (sF S) n lft rgt i) (w_f3 t g (sM S) (sP S) (sE S) (sF S) n lft rgt i))) (by rw [hv0, hv1, hv2, hv3]) ?_
              refine q_ifne_b (tgt := 139) hx hb d_M_stepped_134 (by decide) (fun h_134 => ?_) (fun h_134 => ?_)
              · refine lv_aload_n hx hb d_M_stepped_139 rfl (lv_at hl 1 rfl) ?_
                refine q_get 0 5 i_M rfl hx hb hts hown hE hP rfl (by decide) x_941 rfl d_M_stepped_140 ?_
                refine lv_iload hx hb d_M_stepped_143 (lv_at hl 4 rfl) ?_
                refine q_lald (k := i) 3 hx hb hE hP rfl rfl (by omega) (by decide) d_M_stepped_145 ?_
                refine q_topl (v := w_f0 t g (sM S) (sP S) (sE S) (sF S) n lft rgt i) (hv0) ?_
                refine lv_lstore (lv' := [(5, .long (w_f0 t g (sM S) (sP S) (sE S) (sF S) n lft rgt i)), (0, .ref (am 0)), (1, .long t), (3, .int (nI n)), (4, .int (nI i))]) hx hb d_M_stepped_146 hl (by decide) rfl (fun ls hl => ?_)
                refine lv_ldc2 (v := 100) hx hb hown (hts _ (List.mem_cons_of_mem _ x_1011)) d_M_stepped_148 ?_
                refine lv_aload_n hx hb d_M_stepped_151 rfl (lv_at hl 1 rfl) ?_
                refine lv_lload hx hb d_M_stepped_152 (lv_at hl 0 rfl) ?_
                refine lv_aload_n hx hb d_M_stepped_154 rfl (lv_at hl 1 rfl) ?_
                refine q_get 0 5 i_M rfl hx hb hts hown hE hP rfl (by decide) x_941 rfl d_M_stepped_155 ?_
                refine lv_bipush (v := 32) hx hb d_M_stepped_158 (by decide) ?_
                refine lv_iload hx hb d_M_stepped_160 (lv_at hl 4 rfl) ?_
                refine q_iadd (v := nI (32 + i)) hx hb d_M_stepped_162 (nI_add 32 i) ?_
                refine q_lald (k := 32 + i) 3 hx hb hE hP rfl rfl (by omega) (by decide) d_M_stepped_163 ?_
                refine q_topl (v := w_f1 t g (sM S) (sP S) (sE S) (sF S) n lft rgt i) (hv1) ?_
                refine lv_aload_n hx hb d_M_stepped_164 rfl (lv_at hl 1 rfl) ?_
                refine q_get 0 5 i_M rfl hx hb hts hown hE hP rfl (by decide) x_941 rfl d_M_stepped_165 ?_
                refine lv_bipush (v := 64) hx hb d_M_stepped_168 (by decide) ?_
                refine lv_iload hx hb d_M_stepped_170 (lv_at hl 4 rfl) ?_
                refine q_iadd (v := nI (64 + i)) hx hb d_M_stepped_172 (nI_add 64 i) ?_
                refine q_lald (k := 64 + i) 3 hx hb hE hP rfl rfl (by omega) (by decide) d_M_stepped_173 ?_
                refine q_topl (v := w_f2 t g (sM S) (sP S) (sE S) (sF S) n lft rgt i) (hv2) ?_
                refine cRV (As := [.long (w_f0 t g (sM S) (sP S) (sE S) (sF S) n lft rgt i), .long (w_f1 t g (sM S) (sP S) (sE S) (sF S) n lft rgt i), .long (w_f2 t g (sM S) (sP S) (sE S) (sF S) n lft rgt i)]) (rest := [.long 100]) (q9 := 0) (ci := 8) K_M_pressure x_1050 hx hb hml hown hts hE hV hS (c_M_pressure l D ct st am th b1 h1 S g (w_f0 t g (sM S) (sP S) (sE S) (sF S) n lft rgt i) (w_f1 t g (sM S) (sP S) (sE S) (sF S) n lft rgt i) (w_f2 t g (sM S) (sP S) (sE S) (sF S) n lft rgt i) (hg) (hS0) (w_inm h_134.1)) (hP.sub (ws' := [((am 0), .inr (8, [.int th, .ref (am 1), .ref (am 2), .ref (am 3), .ref (am 4), .ref (am 5), .long b1, .long h1, .ref (am 6), .ref (am 7)])), ((am 1), .inl (ct 1, 334, .inr (.inl S)))]) [0, 1] rfl) rfl hP rfl rfl hl.1 rfl (Nat.le_of_ble_eq_true rfl) d_M_stepped_174 (Nat.le_of_ble_eq_true rfl) (Nat.le_of_ble_eq_true rfl) ⟨Nat.le_of_ble_eq_true rfl, Nat.le_of_ble_eq_true rfl⟩ ?_
                refine lv_lmul hx hb d_M_stepped_177 ?_
                refine lv_lload hx hb d_M_stepped_178 (lv_at hl 0 rfl) ?_
                refine cRS (As := [.long (100 * (w_pres g (w_within (w_f0 t g (sM S) (sP S) (sE S) (sF S) n lft rgt i) (w_f1 t g (sM S) (sP S) (sE S) (sF S) n lft rgt i) (w_f2 t g (sM S) (sP S) (sE S) (sF S) n lft rgt i)))), .long (w_f0 t g (sM S) (sP S) (sE S) (sF S) n lft rgt i)]) (rest := []) K_M_down x_1000 hx hb hml hown hts hE hV hS (c_M_down l D ct st (100 * (w_pres g (w_within (w_f0 t g (sM S) (sP S) (sE S) (sF S) n lft rgt i) (w_f1 t g (sM S) (sP S) (sE S) (sF S) n lft rgt i) (w_f2 t g (sM S) (sP S) (sE S) (sF S) n lft rgt i)))) (w_f0 t g (sM S) (sP S) (sE S) (sF S) n lft rgt i) (by have := (w_inm h_134.1).1; omega)) (fun k q h => by simp at h) rfl hl.1 rfl (Nat.le_of_ble_eq_true rfl) d_M_stepped_180 (Nat.le_of_ble_eq_true rfl) (Nat.le_of_ble_eq_true rfl) ⟨Nat.le_of_ble_eq_true rfl, Nat.le_of_ble_eq_true rfl⟩ ?_
                refine lv_aload_n hx hb d_M_stepped_183 rfl (lv_at hl 1 rfl) ?_
                refine q_get 0 1 i_M rfl hx hb hts hown hE hP rfl (by decide) x_937 rfl d_M_stepped_184 ?_
                refine lv_iconst (v := 1) hx hb d_M_stepped_187 (by decide) ?_
                refine q_lald (k := 1) 1 hx hb hE hP rfl rfl (by omega) (by decide) d_M_stepped_188 ?_
                refine W.lcmp hx hb d_M_stepped_189 ?_
                refine q_cmp_lt (tgt := 282) hx hb d_M_stepped_190 (by decide) (fun h_190 => ?_) (fun h_190 => ?_)
                · have hgn : w_gn t g (sM S) (sP S) (sE S) (sF S) n lft rgt (S 1) (S 2) i = 0 := by unfold w_gn w_gone; rw [if_pos h_190]
                  have q9 : fresh_4 i = w_f0 t g (sM S) (sP S) (sE S) (sF S) n lft rgt i ∧ fresh_4 (32 + i) = w_f1 t g (sM S) (sP S) (sE S) (sF S) n lft rgt i ∧ fresh_4 (64 + i) = w_e2 t g (sM S) (sP S) (sE S) (sF S) n lft rgt (S 1) (S 2) (S 3) i ∧ fresh_4 (96 + i) = w_f4 t g (sM S) (sP S) (sE S) (sF S) n lft rgt (S 1) (S 2) i := ⟨hv0, hv1, by rw [hv2]; unfold w_e2; rw [hgn, Int64.zero_mul, Int64.add_zero], by rw [hv3]; unfold w_f4; rw [hgn, Int64.sub_zero]⟩
                  refine lv_aload_n hx hb d_M_stepped_282 rfl (lv_at hl 1 rfl) ?_
                  refine lv_iload hx hb d_M_stepped_283 (lv_at hl 4 rfl) ?_
                  refine cRV (As := [.int (nI i)]) (rest := []) (q9 := 0) (ci := 8) K_M_isGood x_1077 hx hb hml hown hts hE hV hS (c_M_isGood l D ct st am th b1 h1 fresh_4 i (by omega)) (hP.sub (ws' := [((am 0), .inr (8, [.int th, .ref (am 1), .ref (am 2), .ref (am 3), .ref (am 4), .ref (am 5), .long b1, .long h1, .ref (am 6), .ref (am 7)])), ((am 5), .inl (ct 1, 128, .inr (.inl fresh_4)))]) [0, 3] rfl) rfl hP rfl rfl hl.1 rfl (Nat.le_of_ble_eq_true rfl) d_M_stepped_285 (Nat.le_of_ble_eq_true rfl) (Nat.le_of_ble_eq_true rfl) ⟨Nat.le_of_ble_eq_true rfl, Nat.le_of_ble_eq_true rfl⟩ ?_
                  refine q_topi (v := bI (w_good (w_f0 t g (sM S) (sP S) (sE S) (sF S) n lft rgt i) (w_f1 t g (sM S) (sP S) (sE S) (sF S) n lft rgt i) (w_e2 t g (sM S) (sP S) (sE S) (sF S) n lft rgt (S 1) (S 2) (S 3) i) (w_f4 t g (sM S) (sP S) (sE S) (sF S) n lft rgt (S 1) (S 2) i))) (by rw [q9.1, q9.2.1, q9.2.2.1, q9.2.2.2]) ?_
                  refine q_ifne_b (tgt := 293) hx hb d_M_stepped_288 (by decide) (fun h_288 => ?_) (fun h_288 => ?_)
                  · have hun : ∀ j, j ≠ i → j ≠ 32 + i → j ≠ 64 + i → j ≠ 96 + i → fresh_4 j = R1 j := fun j j1 j2 j3 j4 => by simp (disch := omega) only [efresh_1, efresh_2, efresh_3, efresh_4, pk_uLn]
                    refine lv_iinc (v := (nI (i + 1))) (lv' := [(4, .int (nI (i + 1))), (5, .long (w_f0 t g (sM S) (sP S) (sE S) (sF S) n lft rgt i)), (0, .ref (am 0)), (1, .long t), (3, .int (nI n))]) hx hb d_M_stepped_293 hl (k := 4) rfl (nI_1 _) (by decide) rfl (fun ls hl => ?_)
                    refine lv_goto (tgt := 48) hx hb d_M_stepped_296 (by decide) ?_
                    exact ih_48 (i + 1) fresh_4 b1 h1 (by omega) (ce_step (by omega) hn hR ⟨h_134, h_288⟩ q9 hun) (by show _ = w_sum _ i + w_gn t g (sM S) (sP S) (sE S) (sF S) n lft rgt (S 1) (S 2) i; rw [hgn, Int64.add_zero]; exact hbu) (by show _ = w_sum _ i + w_gn t g (sM S) (sP S) (sE S) (sF S) n lft rgt (S 1) (S 2) i * S 3; rw [hgn, Int64.zero_mul, Int64.add_zero]; exact hhe) (by omega) _ _ _ hP hD hS (lv_sub hl [2, 3, 4, 0] rfl)
                  · refine lv_iconst (v := 0) hx hb d_M_stepped_291 (by decide) ?_
                    exact rW_z (P := w_ok t g (sM S) (sP S) (sE S) (sF S) n lft rgt (S 1) (S 2) (S 3)) hx hb hr hlk hAe hS hP hD (Nat.le_of_ble_eq_true rfl) (Nat.le_of_ble_eq_true rfl) d_M_stepped_292 (bI_0 (fun z => h_288 (z.2 i (by omega)).2)) ⟨b1, h1, G1, fresh_4, rfl, rfl, fun z => absurd (z.2 i (by omega)).2 h_288⟩
                · have hgn : w_gn t g (sM S) (sP S) (sE S) (sF S) n lft rgt (S 1) (S 2) i = fd (w_f3 t g (sM S) (sP S) (sE S) (sF S) n lft rgt i * S 2) 100 := by unfold w_gn w_gone; rw [if_neg h_190]
                  refine lv_aload_n hx hb d_M_stepped_193 rfl (lv_at hl 1 rfl) ?_
                  refine q_get 0 5 i_M rfl hx hb hts hown hE hP rfl (by decide) x_941 rfl d_M_stepped_194 ?_
                  refine lv_bipush (v := 96) hx hb d_M_stepped_197 (by decide) ?_
                  refine lv_iload hx hb d_M_stepped_199 (lv_at hl 4 rfl) ?_
                  refine q_iadd (v := nI (96 + i)) hx hb d_M_stepped_201 (nI_add 96 i) ?_
                  refine q_lald (k := 96 + i) 3 hx hb hE hP rfl rfl (by omega) (by decide) d_M_stepped_202 ?_
                  refine q_topl (v := w_f3 t g (sM S) (sP S) (sE S) (sF S) n lft rgt i) (hv3) ?_
                  refine lv_aload_n hx hb d_M_stepped_203 rfl (lv_at hl 1 rfl) ?_
                  refine q_get 0 1 i_M rfl hx hb hts hown hE hP rfl (by decide) x_937 rfl d_M_stepped_204 ?_
                  refine lv_iconst (v := 2) hx hb d_M_stepped_207 (by decide) ?_
                  refine q_lald (k := 2) 1 hx hb hE hP rfl rfl (by omega) (by decide) d_M_stepped_208 ?_
                  refine lv_lmul hx hb d_M_stepped_209 ?_
                  refine lv_ldc2 (v := 100) hx hb hown (hts _ (List.mem_cons_of_mem _ x_1011)) d_M_stepped_210 ?_
                  refine lv_ldiv hx hb d_M_stepped_213 (by decide) ?_
                  refine q_topl (v := w_gn t g (sM S) (sP S) (sE S) (sF S) n lft rgt (S 1) (S 2) i) ((fd_nn (by decide) (fp_nn h_134.1 h_134.2.1 hpt)).trans hgn.symm) ?_
                  refine lv_lstore (lv' := [(7, .long (w_gn t g (sM S) (sP S) (sE S) (sF S) n lft rgt (S 1) (S 2) i)), (5, .long (w_f0 t g (sM S) (sP S) (sE S) (sF S) n lft rgt i)), (0, .ref (am 0)), (1, .long t), (3, .int (nI n)), (4, .int (nI i))]) hx hb d_M_stepped_214 hl (by decide) rfl (fun ls hl => ?_)
                  refine lv_aload_n hx hb d_M_stepped_216 rfl (lv_at hl 2 rfl) ?_
                  refine q_get 0 5 i_M rfl hx hb hts hown hE hP rfl (by decide) x_941 rfl d_M_stepped_217 ?_
                  refine lv_bipush (v := 96) hx hb d_M_stepped_220 (by decide) ?_
                  refine lv_iload hx hb d_M_stepped_222 (lv_at hl 5 rfl) ?_
                  refine q_iadd (v := nI (96 + i)) hx hb d_M_stepped_224 (nI_add 96 i) ?_
                  refine lv_dup2_11 hx hb d_M_stepped_225 rfl rfl ?_
                  refine q_lald (k := 96 + i) 3 hx hb hE hP rfl rfl (by omega) (by decide) d_M_stepped_226 ?_
                  refine q_topl (v := w_f3 t g (sM S) (sP S) (sE S) (sF S) n lft rgt i) (hv3) ?_
                  refine lv_lload hx hb d_M_stepped_227 (lv_at hl 0 rfl) ?_
                  refine lv_lsub hx hb d_M_stepped_229 ?_
                  obtain ⟨fresh_5, efresh_5⟩ : ∃ g9 : Nat → Int64, g9 = vp_updL fresh_4 (96 + i) ((w_f3 t g (sM S) (sP S) (sE S) (sF S) n lft rgt i) - (w_gn t g (sM S) (sP S) (sE S) (sF S) n lft rgt (S 1) (S 2) i)) := ⟨_, rfl⟩
                  refine q_last (k := 96 + i) 3 (ws1 := [((am 0), .inr (8, [.int th, .ref (am 1), .ref (am 2), .ref (am 3), .ref (am 4), .ref (am 5), .long b1, .long h1, .ref (am 6), .ref (am 7)])), ((am 1), .inl (ct 1, 334, .inr (.inl S))), ((am 4), .inl (ct 1, 132, .inr (.inl G1))), ((am 5), .inl (ct 1, 128, .inr (.inl fresh_5)))]) efresh_5 hx hb hE hP hD hS rfl rfl (by omega) (by decide) rfl d_M_stepped_230 (fun H locs hP hD hS => ?_)
                  refine lv_aload_n hx hb d_M_stepped_231 rfl (lv_at hl 2 rfl) ?_
                  refine q_get 0 5 i_M rfl hx hb hts hown hE hP rfl (by decide) x_941 rfl d_M_stepped_232 ?_
                  refine lv_bipush (v := 64) hx hb d_M_stepped_235 (by decide) ?_
                  refine lv_iload hx hb d_M_stepped_237 (lv_at hl 5 rfl) ?_
                  refine q_iadd (v := nI (64 + i)) hx hb d_M_stepped_239 (nI_add 64 i) ?_
                  refine lv_dup2_11 hx hb d_M_stepped_240 rfl rfl ?_
                  refine q_lald (k := 64 + i) 3 hx hb hE hP rfl rfl (by omega) (by decide) d_M_stepped_241 ?_
                  refine q_topl (v := w_f2 t g (sM S) (sP S) (sE S) (sF S) n lft rgt i) (by simp (disch := omega) only [efresh_5, pk_uLn]; exact hv2) ?_
                  refine lv_lload hx hb d_M_stepped_242 (lv_at hl 0 rfl) ?_
                  refine lv_aload_n hx hb d_M_stepped_244 rfl (lv_at hl 2 rfl) ?_
                  refine q_get 0 1 i_M rfl hx hb hts hown hE hP rfl (by decide) x_937 rfl d_M_stepped_245 ?_
                  refine lv_iconst (v := 3) hx hb d_M_stepped_248 (by decide) ?_
                  refine q_lald (k := 3) 1 hx hb hE hP rfl rfl (by omega) (by decide) d_M_stepped_249 ?_
                  refine lv_lmul hx hb d_M_stepped_250 ?_
                  refine lv_ladd hx hb d_M_stepped_251 ?_
                  obtain ⟨fresh_6, efresh_6⟩ : ∃ g9 : Nat → Int64, g9 = vp_updL fresh_5 (64 + i) ((w_f2 t g (sM S) (sP S) (sE S) (sF S) n lft rgt i) + ((w_gn t g (sM S) (sP S) (sE S) (sF S) n lft rgt (S 1) (S 2) i) * (S 3))) := ⟨_, rfl⟩
                  refine q_last (k := 64 + i) 3 (ws1 := [((am 0), .inr (8, [.int th, .ref (am 1), .ref (am 2), .ref (am 3), .ref (am 4), .ref (am 5), .long b1, .long h1, .ref (am 6), .ref (am 7)])), ((am 1), .inl (ct 1, 334, .inr (.inl S))), ((am 4), .inl (ct 1, 132, .inr (.inl G1))), ((am 5), .inl (ct 1, 128, .inr (.inl fresh_6)))]) efresh_6 hx hb hE hP hD hS rfl rfl (by omega) (by decide) rfl d_M_stepped_252 (fun H locs hP hD hS => ?_)
                  refine lv_aload_n hx hb d_M_stepped_253 rfl (lv_at hl 2 rfl) ?_
                  refine lv_dup hx hb d_M_stepped_254 rfl ?_
                  refine q_get 0 6 i_M rfl hx hb hts hown hE hP rfl (by decide) x_942 rfl d_M_stepped_255 ?_
                  refine lv_lload hx hb d_M_stepped_258 (lv_at hl 0 rfl) ?_
                  refine lv_ladd hx hb d_M_stepped_260 ?_
                  refine q_put (ty := .long) 0 6 (ws1 := [((am 0), .inr (8, [.int th, .ref (am 1), .ref (am 2), .ref (am 3), .ref (am 4), .ref (am 5), .long (b1 + (w_gn t g (sM S) (sP S) (sE S) (sF S) n lft rgt (S 1) (S 2) i)), .long h1, .ref (am 6), .ref (am 7)])), ((am 1), .inl (ct 1, 334, .inr (.inl S))), ((am 4), .inl (ct 1, 132, .inr (.inl G1))), ((am 5), .inl (ct 1, 128, .inr (.inl fresh_6)))]) t_M i_M t_M_ok n_M rfl hx hb hts hown hE hP hD hS rfl (by decide) x_942 rfl (by decide +kernel) (rfl) rfl (Nat.le_of_ble_eq_true rfl) rfl d_M_stepped_261 (fun H locs hP hD hS => ?_)
                  refine lv_aload_n hx hb d_M_stepped_264 rfl (lv_at hl 2 rfl) ?_
                  refine lv_dup hx hb d_M_stepped_265 rfl ?_
                  refine q_get 0 7 i_M rfl hx hb hts hown hE hP rfl (by decide) x_943 rfl d_M_stepped_266 ?_
                  refine lv_lload hx hb d_M_stepped_269 (lv_at hl 0 rfl) ?_
                  refine lv_aload_n hx hb d_M_stepped_271 rfl (lv_at hl 2 rfl) ?_
                  refine q_get 0 1 i_M rfl hx hb hts hown hE hP rfl (by decide) x_937 rfl d_M_stepped_272 ?_
                  refine lv_iconst (v := 3) hx hb d_M_stepped_275 (by decide) ?_
                  refine q_lald (k := 3) 1 hx hb hE hP rfl rfl (by omega) (by decide) d_M_stepped_276 ?_
                  refine lv_lmul hx hb d_M_stepped_277 ?_
                  refine lv_ladd hx hb d_M_stepped_278 ?_
                  refine q_put (ty := .long) 0 7 (ws1 := [((am 0), .inr (8, [.int th, .ref (am 1), .ref (am 2), .ref (am 3), .ref (am 4), .ref (am 5), .long (b1 + (w_gn t g (sM S) (sP S) (sE S) (sF S) n lft rgt (S 1) (S 2) i)), .long (h1 + ((w_gn t g (sM S) (sP S) (sE S) (sF S) n lft rgt (S 1) (S 2) i) * (S 3))), .ref (am 6), .ref (am 7)])), ((am 1), .inl (ct 1, 334, .inr (.inl S))), ((am 4), .inl (ct 1, 132, .inr (.inl G1))), ((am 5), .inl (ct 1, 128, .inr (.inl fresh_6)))]) t_M i_M t_M_ok n_M rfl hx hb hts hown hE hP hD hS rfl (by decide) x_943 rfl (by decide +kernel) (rfl) rfl (Nat.le_of_ble_eq_true rfl) rfl d_M_stepped_279 (fun H locs hP hD hS => ?_)
                  have q9 : fresh_6 i = w_f0 t g (sM S) (sP S) (sE S) (sF S) n lft rgt i ∧ fresh_6 (32 + i) = w_f1 t g (sM S) (sP S) (sE S) (sF S) n lft rgt i ∧ fresh_6 (64 + i) = w_e2 t g (sM S) (sP S) (sE S) (sF S) n lft rgt (S 1) (S 2) (S 3) i ∧ fresh_6 (96 + i) = w_f4 t g (sM S) (sP S) (sE S) (sF S) n lft rgt (S 1) (S 2) i := ⟨by simp (disch := omega) only [efresh_5, efresh_6, pk_uLn, pk_uLs]; exact hv0, by simp (disch := omega) only [efresh_5, efresh_6, pk_uLn, pk_uLs]; exact hv1, by simp (disch := omega) only [efresh_5, efresh_6, pk_uLn, pk_uLs]; rfl, by simp (disch := omega) only [efresh_5, efresh_6, pk_uLn, pk_uLs]; rfl⟩
                  refine lv_aload_n hx hb d_M_stepped_282 rfl (lv_at hl 2 rfl) ?_
                  refine lv_iload hx hb d_M_stepped_283 (lv_at hl 5 rfl) ?_
                  refine cRV (As := [.int (nI i)]) (rest := []) (q9 := 0) (ci := 8) K_M_isGood x_1077 hx hb hml hown hts hE hV hS (c_M_isGood l D ct st am th (b1 + (w_gn t g (sM S) (sP S) (sE S) (sF S) n lft rgt (S 1) (S 2) i)) (h1 + ((w_gn t g (sM S) (sP S) (sE S) (sF S) n lft rgt (S 1) (S 2) i) * (S 3))) fresh_6 i (by omega)) (hP.sub (ws' := [((am 0), .inr (8, [.int th, .ref (am 1), .ref (am 2), .ref (am 3), .ref (am 4), .ref (am 5), .long (b1 + (w_gn t g (sM S) (sP S) (sE S) (sF S) n lft rgt (S 1) (S 2) i)), .long (h1 + ((w_gn t g (sM S) (sP S) (sE S) (sF S) n lft rgt (S 1) (S 2) i) * (S 3))), .ref (am 6), .ref (am 7)])), ((am 5), .inl (ct 1, 128, .inr (.inl fresh_6)))]) [0, 3] rfl) rfl hP rfl rfl hl.1 rfl (Nat.le_of_ble_eq_true rfl) d_M_stepped_285 (Nat.le_of_ble_eq_true rfl) (Nat.le_of_ble_eq_true rfl) ⟨Nat.le_of_ble_eq_true rfl, Nat.le_of_ble_eq_true rfl⟩ ?_
                  refine q_topi (v := bI (w_good (w_f0 t g (sM S) (sP S) (sE S) (sF S) n lft rgt i) (w_f1 t g (sM S) (sP S) (sE S) (sF S) n lft rgt i) (w_e2 t g (sM S) (sP S) (sE S) (sF S) n lft rgt (S 1) (S 2) (S 3) i) (w_f4 t g (sM S) (sP S) (sE S) (sF S) n lft rgt (S 1) (S 2) i))) (by rw [q9.1, q9.2.1, q9.2.2.1, q9.2.2.2]) ?_
                  refine q_ifne_b (tgt := 293) hx hb d_M_stepped_288 (by decide) (fun h_288 => ?_) (fun h_288 => ?_)
                  · have hun : ∀ j, j ≠ i → j ≠ 32 + i → j ≠ 64 + i → j ≠ 96 + i → fresh_6 j = R1 j := fun j j1 j2 j3 j4 => by simp (disch := omega) only [efresh_1, efresh_2, efresh_3, efresh_4, efresh_5, efresh_6, pk_uLn]
                    refine lv_iinc (v := (nI (i + 1))) (lv' := [(4, .int (nI (i + 1))), (7, .long (w_gn t g (sM S) (sP S) (sE S) (sF S) n lft rgt (S 1) (S 2) i)), (5, .long (w_f0 t g (sM S) (sP S) (sE S) (sF S) n lft rgt i)), (0, .ref (am 0)), (1, .long t), (3, .int (nI n))]) hx hb d_M_stepped_293 hl (k := 5) rfl (nI_1 _) (by decide) rfl (fun ls hl => ?_)
                    refine lv_goto (tgt := 48) hx hb d_M_stepped_296 (by decide) ?_
                    exact ih_48 (i + 1) fresh_6 (b1 + (w_gn t g (sM S) (sP S) (sE S) (sF S) n lft rgt (S 1) (S 2) i)) (h1 + ((w_gn t g (sM S) (sP S) (sE S) (sF S) n lft rgt (S 1) (S 2) i) * (S 3))) (by omega) (ce_step (by omega) hn hR ⟨h_134, h_288⟩ q9 hun) (by rw [hbu]; rfl) (by rw [hhe]; rfl) (by omega) _ _ _ hP hD hS (lv_sub hl [3, 4, 5, 0] rfl)
                  · refine lv_iconst (v := 0) hx hb d_M_stepped_291 (by decide) ?_
                    exact rW_z (P := w_ok t g (sM S) (sP S) (sE S) (sF S) n lft rgt (S 1) (S 2) (S 3)) hx hb hr hlk hAe hS hP hD (Nat.le_of_ble_eq_true rfl) (Nat.le_of_ble_eq_true rfl) d_M_stepped_292 (bI_0 (fun z => h_288 (z.2 i (by omega)).2)) ⟨(b1 + (w_gn t g (sM S) (sP S) (sE S) (sF S) n lft rgt (S 1) (S 2) i)), (h1 + ((w_gn t g (sM S) (sP S) (sE S) (sF S) n lft rgt (S 1) (S 2) i) * (S 3))), G1, fresh_6, rfl, rfl, fun z => absurd (z.2 i (by omega)).2 h_288⟩
              · refine lv_iconst (v := 0) hx hb d_M_stepped_137 (by decide) ?_
                exact rW_z (P := w_ok t g (sM S) (sP S) (sE S) (sF S) n lft rgt (S 1) (S 2) (S 3)) hx hb hr hlk hAe hS hP hD (Nat.le_of_ble_eq_true rfl) (Nat.le_of_ble_eq_true rfl) d_M_stepped_138 (bI_0 (fun z => h_134 (z.2 i (by omega)).1)) ⟨b1, h1, G1, fresh_4, rfl, rfl, fun z => absurd (z.2 i (by omega)).1 h_134⟩
        exact loop_48 _ 0 R 0 0 (by omega) (fun b hb => absurd hb (Nat.not_lt_zero _)) (rfl) (rfl) (Nat.lt_succ_self _) _ _ _ hP hD hS (lv_sub hl [1, 2, 3, 0] rfl)
      · refine lv_aload_n hx hb d_M_stepped_17 rfl (lv_at hl 0 rfl) ?_
        refine lv_lload_n hx hb d_M_stepped_18 rfl (lv_at hl 1 rfl) ?_
        refine lv_iload hx hb d_M_stepped_19 (lv_at hl 3 rfl) ?_
        refine cWV (As := [.long t, .int (nI k)]) (rest := []) (q9 := 0) (ci := 8) K_M_crosses x_1023 hx hb hml hown hts hE hV hS (c_M_crosses l D ct st am th bu he S G1 g n lft rgt t k (hT) (by omega) _) hP hD hA [0, 1, 2] [3] (wr := [((am 5), .inl (ct 1, 128, .inr (.inl R)))]) rfl rfl (by decide) (by decide) (by decide) rfl hP rfl rfl hl.1 rfl (Nat.le_of_ble_eq_true rfl) d_M_stepped_21 (Nat.le_of_ble_eq_true rfl) (Nat.le_of_ble_eq_true rfl) ⟨Nat.le_of_ble_eq_true rfl, Nat.le_of_ble_eq_true rfl⟩ (fun v W1 H locs hpost hP hD hS => ?_)
        obtain ⟨goes1_1, rfl, rfl, hq_21⟩ := hpost
        have hP : va_P D classes [((am 5), .inl (ct 1, 128, .inr (.inl R))), ((am 0), .inr (8, [.int th, .ref (am 1), .ref (am 2), .ref (am 3), .ref (am 4), .ref (am 5), .long bu, .long he, .ref (am 6), .ref (am 7)])), ((am 1), .inl (ct 1, 334, .inr (.inl S))), ((am 4), .inl (ct 1, 132, .inr (.inl goes1_1)))] H := hP
        have hD : va_D A [((am 5), .inl (ct 1, 128, .inr (.inl R))), ((am 0), .inr (8, [.int th, .ref (am 1), .ref (am 2), .ref (am 3), .ref (am 4), .ref (am 5), .long bu, .long he, .ref (am 6), .ref (am 7)])), ((am 1), .inl (ct 1, 334, .inr (.inl S))), ((am 4), .inl (ct 1, 132, .inr (.inl goes1_1)))] := hD
        refine q_ifne_b (tgt := 29) hx hb d_M_stepped_24 (by decide) (fun h_24 => ?_) (fun h_24 => ?_)
        · refine lv_iinc (v := (nI (k + 1))) (lv' := [(4, .int (nI (k + 1))), (0, .ref (am 0)), (1, .long t), (3, .int (nI n))]) hx hb d_M_stepped_29 hl (k := 3) rfl (nI_1 _) (by decide) rfl (fun ls hl => ?_)
          refine lv_goto (tgt := 11) hx hb d_M_stepped_32 (by decide) ?_
          exact ih_11 (k + 1) goes1_1 (by omega) (cr_step (by omega) hn hG h_24 (hq_21.1 h_24) hq_21.2) (by omega) _ _ _ (hP.sub (ws' := [((am 0), .inr (8, [.int th, .ref (am 1), .ref (am 2), .ref (am 3), .ref (am 4), .ref (am 5), .long bu, .long he, .ref (am 6), .ref (am 7)])), ((am 1), .inl (ct 1, 334, .inr (.inl S))), ((am 4), .inl (ct 1, 132, .inr (.inl goes1_1))), ((am 5), .inl (ct 1, 128, .inr (.inl R)))]) [1, 2, 3, 0] rfl) (hD.sub (ws' := [((am 0), .inr (8, [.int th, .ref (am 1), .ref (am 2), .ref (am 3), .ref (am 4), .ref (am 5), .long bu, .long he, .ref (am 6), .ref (am 7)])), ((am 1), .inl (ct 1, 334, .inr (.inl S))), ((am 4), .inl (ct 1, 132, .inr (.inl goes1_1))), ((am 5), .inl (ct 1, 128, .inr (.inl R)))]) [1, 2, 3, 0] (by decide) rfl) hS (lv_sub hl [1, 2, 3, 0] rfl)
        · refine lv_iconst (v := 0) hx hb d_M_stepped_27 (by decide) ?_
          exact rW_z (P := w_ok t g (sM S) (sP S) (sE S) (sF S) n lft rgt (S 1) (S 2) (S 3)) hx hb hr hlk hAe hS (hP.sub (ws' := [((am 0), .inr (8, [.int th, .ref (am 1), .ref (am 2), .ref (am 3), .ref (am 4), .ref (am 5), .long bu, .long he, .ref (am 6), .ref (am 7)])), ((am 1), .inl (ct 1, 334, .inr (.inl S))), ((am 4), .inl (ct 1, 132, .inr (.inl goes1_1))), ((am 5), .inl (ct 1, 128, .inr (.inl R)))]) [1, 2, 3, 0] rfl) (hD.sub (ws' := [((am 0), .inr (8, [.int th, .ref (am 1), .ref (am 2), .ref (am 3), .ref (am 4), .ref (am 5), .long bu, .long he, .ref (am 6), .ref (am 7)])), ((am 1), .inl (ct 1, 334, .inr (.inl S))), ((am 4), .inl (ct 1, 132, .inr (.inl goes1_1))), ((am 5), .inl (ct 1, 128, .inr (.inl R)))]) [1, 2, 3, 0] (by decide) rfl) (Nat.le_of_ble_eq_true rfl) (Nat.le_of_ble_eq_true rfl) d_M_stepped_28 (bI_0 (fun z => h_24 (z.1 k (by omega)))) ⟨bu, he, goes1_1, R, rfl, rfl, fun z => absurd (z.1 k (by omega)) h_24⟩
  exact loop_11 _ 0 G (by omega) (fun b hb => absurd hb (Nat.not_lt_zero _)) (Nat.lt_succ_self _) _ _ _ hP hD hS (lv_sub hl [2, 3, 1, 0] rfl)
