set_option maxHeartbeats 4000000 in
set_option maxRecDepth 100000 in
theorem c_M_takesStep (l : Launch) (D : va_G) (ct : Nat → ClassId) (st : Nat → Nat) (am : Nat → Nat) (th : Int32) (bu : Int64) (he : Int64) (S : Nat → Int64) (G : Nat → Int64) (R : Nat → Int64) (g : Nat) (n : Nat) (lft : Nat) (rgt : Nat) (hT : TS S g n lft rgt) (hR : ∀ j, j < n → 1 ≤ (R j).toInt ∧ (R j).toInt ≤ 1000000) (sz : Nat) : Met l y_M_takesStep (wsy y_M_takesStep b_M_takesStep 4 (none)) (rmW 4 0 0 99) (PcW D ct st [.ref (am 0)] [((am 0), .inr (8, [.int th, .ref (am 1), .ref (am 2), .ref (am 3), .ref (am 4), .ref (am 5), .long bu, .long he, .ref (am 6), .ref (am 7)])), ((am 1), .inl (ct 1, 334, .inr (.inl S))), ((am 4), .inl (ct 1, 132, .inr (.inl G))), ((am 5), .inl (ct 1, 128, .inr (.inl R)))] sz) (QcW D [((am 0), .inr (8, [.int th, .ref (am 1), .ref (am 2), .ref (am 3), .ref (am 4), .ref (am 5), .long bu, .long he, .ref (am 6), .ref (am 7)])), ((am 1), .inl (ct 1, 334, .inr (.inl S))), ((am 4), .inl (ct 1, 132, .inr (.inl G))), ((am 5), .inl (ct 1, 128, .inr (.inl R)))] sz (fun v W1 => ∃ (s1 : Nat → Int64), v = none ∧ W1 = [((am 0), .inr (8, [.int th, .ref (am 1), .ref (am 2), .ref (am 3), .ref (am 4), .ref (am 5), .long bu, .long he, .ref (am 6), .ref (am 7)])), ((am 1), .inl (ct 1, 334, .inr (.inl s1))), ((am 4), .inl (ct 1, 132, .inr (.inl G))), ((am 5), .inl (ct 1, 128, .inr (.inl R)))] ∧ ((∀ j, j < n → s1 (8 + j) = R j ∧ s1 (40 + j) = R (32 + j) ∧ s1 (72 + j) = R (64 + j) ∧ s1 (104 + j) = R (96 + j)) ∧ s1 7 = S 7 + 1 ∧ (s1 136 = S 136 + (G 0 - G n) ∧ s1 137 = S 137 + (G 33 - G (33 + n)) ∧ s1 138 = S 138 + (G 66 - G (66 + n)) ∧ s1 139 = S 139 + (G 99 - G (99 + n))) ∧ (s1 140 = S 140 + he ∧ s1 141 = S 141 + bu) ∧ (∀ j, j < n → s1 (146 + j) = (if S (146 + j) < w_pres g (w_within (R j) (R (32 + j)) (R (64 + j))) then w_pres g (w_within (R j) (R (32 + j)) (R (64 + j))) else S (146 + j)) ∧ s1 (178 + j) = (if S (146 + j) < w_pres g (w_within (R j) (R (32 + j)) (R (64 + j))) then S 7 + 1 else S (178 + j))) ∧ ∀ j, j < 7 ∨ (142 ≤ j ∧ j < 146) ∨ 210 ≤ j → s1 j = S j))) 0 0 (va_A [((am 0), .inr (8, [.int th, .ref (am 1), .ref (am 2), .ref (am 3), .ref (am 4), .ref (am 5), .long bu, .long he, .ref (am 6), .ref (am 7)])), ((am 1), .inl (ct 1, 334, .inr (.inl S))), ((am 4), .inl (ct 1, 132, .inr (.inl G))), ((am 5), .inl (ct 1, 128, .inr (.inl R)))] sz) := by
  refine enterW (by decide) (Nat.le_of_ble_eq_true rfl) ?_
  intro p e s m args below meth c ls A hx hb hr hml hown hts hlk hin hsz hAe hP hD hA hE hV hS hl
  have hl : lv_has ls 4 [(0, .ref (am 0))] := hl
  obtain ⟨hg, hS0, ⟨hn2, hn⟩, hS4, ⟨hl1, hS5⟩, ⟨hr1, hS6⟩, hpt, hht, hok⟩ := id hT
  refine lv_aload_n hx hb d_M_takesStep_0 rfl (lv_at hl 0 rfl) ?_
  refine q_get 0 1 i_M rfl hx hb hts hown hE hP rfl (by decide) x_937 rfl d_M_takesStep_1 ?_
  refine lv_iconst (v := 4) hx hb d_M_takesStep_4 (by decide) ?_
  refine q_lald (k := 4) 1 hx hb hE hP rfl rfl (by omega) (by decide) d_M_takesStep_5 ?_
  refine q_topl (v := lN n) (hS4) ?_
  refine lv_l2i (v := nI n) hx hb d_M_takesStep_6 (lN_i _) ?_
  refine lv_istore_n (lv' := [(1, .int (nI n)), (0, .ref (am 0))]) hx hb d_M_takesStep_7 rfl hl (by decide) rfl (fun ls hl => ?_)
  refine lv_aload_n hx hb d_M_takesStep_8 rfl (lv_at hl 1 rfl) ?_
  refine q_get 0 1 i_M rfl hx hb hts hown hE hP rfl (by decide) x_937 rfl d_M_takesStep_9 ?_
  refine lv_bipush (v := 7) hx hb d_M_takesStep_12 (by decide) ?_
  refine lv_dup2_11 hx hb d_M_takesStep_14 rfl rfl ?_
  refine q_lald (k := 7) 1 hx hb hE hP rfl rfl (by omega) (by decide) d_M_takesStep_15 ?_
  refine lv_lconst (v := 1) hx hb d_M_takesStep_16 (by decide) ?_
  refine lv_ladd hx hb d_M_takesStep_17 ?_
  obtain ⟨s_1, es_1⟩ : ∃ g9 : Nat → Int64, g9 = vp_updL S 7 ((S 7) + 1) := ⟨_, rfl⟩
  refine q_last (k := 7) 1 (ws1 := [((am 0), .inr (8, [.int th, .ref (am 1), .ref (am 2), .ref (am 3), .ref (am 4), .ref (am 5), .long bu, .long he, .ref (am 6), .ref (am 7)])), ((am 1), .inl (ct 1, 334, .inr (.inl s_1))), ((am 4), .inl (ct 1, 132, .inr (.inl G))), ((am 5), .inl (ct 1, 128, .inr (.inl R)))]) es_1 hx hb hE hP hD hS rfl rfl (by omega) (by decide) rfl d_M_takesStep_18 (fun H locs hP hD hS => ?_)
  refine lv_iconst (v := 0) hx hb d_M_takesStep_19 (by decide) ?_
  refine lv_istore_n (lv' := [(2, .int 0), (1, .int (nI n)), (0, .ref (am 0))]) hx hb d_M_takesStep_20 rfl hl (by decide) rfl (fun ls hl => ?_)
  refine lv_iload_n hx hb d_M_takesStep_21 rfl (lv_at hl 0 rfl) ?_
  refine lv_iconst (v := 4) hx hb d_M_takesStep_22 (by decide) ?_
  refine lv_icmp_ge (tgt := 104) hx hb d_M_takesStep_23 (by decide) (fun h => absurd h (by decide)) (fun _ => ?_)
  refine lv_aload_n hx hb d_M_takesStep_26 rfl (lv_at hl 2 rfl) ?_
  refine q_get 0 1 i_M rfl hx hb hts hown hE hP rfl (by decide) x_937 rfl d_M_takesStep_27 ?_
  refine lv_sipush (v := 136) hx hb d_M_takesStep_30 (by decide) ?_
  refine lv_iload_n hx hb d_M_takesStep_33 rfl (lv_at hl 0 rfl) ?_
  refine q_iadd (v := 136) hx hb d_M_takesStep_34 (by decide) ?_
  refine lv_dup2_11 hx hb d_M_takesStep_35 rfl rfl ?_
  refine q_lald (k := 136) 1 hx hb hE hP rfl rfl (by omega) (by decide) d_M_takesStep_36 ?_
  refine lv_aload_n hx hb d_M_takesStep_37 rfl (lv_at hl 2 rfl) ?_
  refine q_get 0 4 i_M rfl hx hb hts hown hE hP rfl (by decide) x_940 rfl d_M_takesStep_38 ?_
  refine lv_bipush (v := 33) hx hb d_M_takesStep_41 (by decide) ?_
  refine lv_iload_n hx hb d_M_takesStep_43 rfl (lv_at hl 0 rfl) ?_
  refine q_imul (v := 0) hx hb d_M_takesStep_44 (by decide) ?_
  refine q_lald (k := 0) 2 hx hb hE hP rfl rfl (by omega) (by decide) d_M_takesStep_45 ?_
  refine lv_aload_n hx hb d_M_takesStep_46 rfl (lv_at hl 2 rfl) ?_
  refine q_get 0 4 i_M rfl hx hb hts hown hE hP rfl (by decide) x_940 rfl d_M_takesStep_47 ?_
  refine lv_bipush (v := 33) hx hb d_M_takesStep_50 (by decide) ?_
  refine lv_iload_n hx hb d_M_takesStep_52 rfl (lv_at hl 0 rfl) ?_
  refine q_imul (v := 0) hx hb d_M_takesStep_53 (by decide) ?_
  refine lv_iload_n hx hb d_M_takesStep_54 rfl (lv_at hl 1 rfl) ?_
  refine q_iadd (v := nI n) hx hb d_M_takesStep_55 ((nI_add _ _).trans (congrArg nI (Nat.zero_add _))) ?_
  refine q_lald (k := n) 2 hx hb hE hP rfl rfl (by omega) (by decide) d_M_takesStep_56 ?_
  refine lv_lsub hx hb d_M_takesStep_57 ?_
  refine lv_ladd hx hb d_M_takesStep_58 ?_
  obtain ⟨s_2, es_2⟩ : ∃ g9 : Nat → Int64, g9 = vp_updL s_1 136 ((s_1 136) + ((G 0) - (G n))) := ⟨_, rfl⟩
  refine q_last (k := 136) 1 (ws1 := [((am 0), .inr (8, [.int th, .ref (am 1), .ref (am 2), .ref (am 3), .ref (am 4), .ref (am 5), .long bu, .long he, .ref (am 6), .ref (am 7)])), ((am 1), .inl (ct 1, 334, .inr (.inl s_2))), ((am 4), .inl (ct 1, 132, .inr (.inl G))), ((am 5), .inl (ct 1, 128, .inr (.inl R)))]) es_2 hx hb hE hP hD hS rfl rfl (by omega) (by decide) rfl d_M_takesStep_59 (fun H locs hP hD hS => ?_)
  refine lv_iconst (v := 0) hx hb d_M_takesStep_60 (by decide) ?_
  refine lv_istore_n (lv' := [(3, .int 0), (2, .int 0), (1, .int (nI n)), (0, .ref (am 0))]) hx hb d_M_takesStep_61 rfl hl (by decide) rfl (fun ls hl => ?_)
  have loop_62_0 : ∀ (n9 : Nat) (c90 : Nat) (T0 : Nat → Int64) (hc0 : c90 ≤ n) (hA0 : ∀ j, j < c90 → T0 (8 + j) = R (j)) (hB0 : ∀ j, (j < 8 ∨ 8 + c90 ≤ j) → T0 j = s_2 j) (hn9 : n - c90 < n9) (H : Heap) (locs : List Loc) (ls : Array Slot), va_P D classes [((am 0), .inr (8, [.int th, .ref (am 1), .ref (am 2), .ref (am 3), .ref (am 4), .ref (am 5), .long bu, .long he, .ref (am 6), .ref (am 7)])), ((am 1), .inl (ct 1, 334, .inr (.inl T0))), ((am 4), .inl (ct 1, 132, .inr (.inl G))), ((am 5), .inl (ct 1, 128, .inr (.inl R)))] H → va_D A [((am 0), .inr (8, [.int th, .ref (am 1), .ref (am 2), .ref (am 3), .ref (am 4), .ref (am 5), .long bu, .long he, .ref (am 6), .ref (am 7)])), ((am 1), .inl (ct 1, 334, .inr (.inl T0))), ((am 4), .inl (ct 1, 132, .inr (.inl G))), ((am 5), .inl (ct 1, 128, .inr (.inl R)))] → va_S A s.heap H locs → lv_has ls 4 [(0, .ref (am 0)), (1, .int (nI n)), (2, .int 0), (3, .int (nI c90))] → W p l e (rmW 4 0 0 99) s m args below meth c H locs (0) (0) (MQ below (QcW D [((am 0), .inr (8, [.int th, .ref (am 1), .ref (am 2), .ref (am 3), .ref (am 4), .ref (am 5), .long bu, .long he, .ref (am 6), .ref (am 7)])), ((am 1), .inl (ct 1, 334, .inr (.inl S))), ((am 4), .inl (ct 1, 132, .inr (.inl G))), ((am 5), .inl (ct 1, 128, .inr (.inl R)))] sz (fun v W1 => ∃ (s1 : Nat → Int64), v = none ∧ W1 = [((am 0), .inr (8, [.int th, .ref (am 1), .ref (am 2), .ref (am 3), .ref (am 4), .ref (am 5), .long bu, .long he, .ref (am 6), .ref (am 7)])), ((am 1), .inl (ct 1, 334, .inr (.inl s1))), ((am 4), .inl (ct 1, 132, .inr (.inl G))), ((am 5), .inl (ct 1, 128, .inr (.inl R)))] ∧ ((∀ j, j < n → s1 (8 + j) = R j ∧ s1 (40 + j) = R (32 + j) ∧ s1 (72 + j) = R (64 + j) ∧ s1 (104 + j) = R (96 + j)) ∧ s1 7 = S 7 + 1 ∧ (s1 136 = S 136 + (G 0 - G n) ∧ s1 137 = S 137 + (G 33 - G (33 + n)) ∧ s1 138 = S 138 + (G 66 - G (66 + n)) ∧ s1 139 = S 139 + (G 99 - G (99 + n))) ∧ (s1 140 = S 140 + he ∧ s1 141 = S 141 + bu) ∧ (∀ j, j < n → s1 (146 + j) = (if S (146 + j) < w_pres g (w_within (R j) (R (32 + j)) (R (64 + j))) then w_pres g (w_within (R j) (R (32 + j)) (R (64 + j))) else S (146 + j)) ∧ s1 (178 + j) = (if S (146 + j) < w_pres g (w_within (R j) (R (32 + j)) (R (64 + j))) then S 7 + 1 else S (178 + j))) ∧ ∀ j, j < 7 ∨ (142 ≤ j ∧ j < 146) ∨ 210 ≤ j → s1 j = S j))) args s 0 0 A) (F0 m 62 ls []) := by
    intro n9
    induction n9 with
    | zero => intro c90 T0 hc0 hA0 hB0 hn9 H locs ls hP hD hS hl; exact absurd hn9 (Nat.not_lt_zero _)
    | succ n9 ih_62_0 =>
      intro c90 T0 hc0 hA0 hB0 hn9 H locs ls hP hD hS hl
      refine lv_iload_n hx hb d_M_takesStep_62 rfl (lv_at hl 3 rfl) ?_
      refine lv_iload_n hx hb d_M_takesStep_63 rfl (lv_at hl 1 rfl) ?_
      refine q_icmp_ge_n (a := c90) (b := n) (tgt := 98) hx hb d_M_takesStep_64 (by decide) rfl rfl (by omega) (by omega) (fun h_64 => ?_) (fun h_64 => ?_)
      · refine lv_iinc (v := 1) (lv' := [(2, .int 1), (0, .ref (am 0)), (1, .int (nI n)), (3, .int (nI c90))]) hx hb d_M_takesStep_98 hl (k := 2) rfl (by decide) (by decide) rfl (fun ls hl => ?_)
        refine lv_goto (tgt := 21) hx hb d_M_takesStep_101 (by decide) ?_
        refine lv_iload_n hx hb d_M_takesStep_21 rfl (lv_at hl 0 rfl) ?_
        refine lv_iconst (v := 4) hx hb d_M_takesStep_22 (by decide) ?_
        refine lv_icmp_ge (tgt := 104) hx hb d_M_takesStep_23 (by decide) (fun h => absurd h (by decide)) (fun _ => ?_)
        refine lv_aload_n hx hb d_M_takesStep_26 rfl (lv_at hl 1 rfl) ?_
        refine q_get 0 1 i_M rfl hx hb hts hown hE hP rfl (by decide) x_937 rfl d_M_takesStep_27 ?_
        refine lv_sipush (v := 136) hx hb d_M_takesStep_30 (by decide) ?_
        refine lv_iload_n hx hb d_M_takesStep_33 rfl (lv_at hl 0 rfl) ?_
        refine q_iadd (v := 137) hx hb d_M_takesStep_34 (by decide) ?_
        refine lv_dup2_11 hx hb d_M_takesStep_35 rfl rfl ?_
        refine q_lald (k := 137) 1 hx hb hE hP rfl rfl (by omega) (by decide) d_M_takesStep_36 ?_
        refine lv_aload_n hx hb d_M_takesStep_37 rfl (lv_at hl 1 rfl) ?_
        refine q_get 0 4 i_M rfl hx hb hts hown hE hP rfl (by decide) x_940 rfl d_M_takesStep_38 ?_
        refine lv_bipush (v := 33) hx hb d_M_takesStep_41 (by decide) ?_
        refine lv_iload_n hx hb d_M_takesStep_43 rfl (lv_at hl 0 rfl) ?_
        refine q_imul (v := 33) hx hb d_M_takesStep_44 (by decide) ?_
        refine q_lald (k := 33) 2 hx hb hE hP rfl rfl (by omega) (by decide) d_M_takesStep_45 ?_
        refine lv_aload_n hx hb d_M_takesStep_46 rfl (lv_at hl 1 rfl) ?_
        refine q_get 0 4 i_M rfl hx hb hts hown hE hP rfl (by decide) x_940 rfl d_M_takesStep_47 ?_
        refine lv_bipush (v := 33) hx hb d_M_takesStep_50 (by decide) ?_
        refine lv_iload_n hx hb d_M_takesStep_52 rfl (lv_at hl 0 rfl) ?_
        refine q_imul (v := 33) hx hb d_M_takesStep_53 (by decide) ?_
        refine lv_iload_n hx hb d_M_takesStep_54 rfl (lv_at hl 2 rfl) ?_
        refine q_iadd (v := nI (33 + n)) hx hb d_M_takesStep_55 (nI_add 33 n) ?_
        refine q_lald (k := 33 + n) 2 hx hb hE hP rfl rfl (by omega) (by decide) d_M_takesStep_56 ?_
        refine lv_lsub hx hb d_M_takesStep_57 ?_
        refine lv_ladd hx hb d_M_takesStep_58 ?_
        obtain ⟨s_3, es_3⟩ : ∃ g9 : Nat → Int64, g9 = vp_updL T0 137 ((T0 137) + ((G 33) - (G (33 + n)))) := ⟨_, rfl⟩
        refine q_last (k := 137) 1 (ws1 := [((am 0), .inr (8, [.int th, .ref (am 1), .ref (am 2), .ref (am 3), .ref (am 4), .ref (am 5), .long bu, .long he, .ref (am 6), .ref (am 7)])), ((am 1), .inl (ct 1, 334, .inr (.inl s_3))), ((am 4), .inl (ct 1, 132, .inr (.inl G))), ((am 5), .inl (ct 1, 128, .inr (.inl R)))]) es_3 hx hb hE hP hD hS rfl rfl (by omega) (by decide) rfl d_M_takesStep_59 (fun H locs hP hD hS => ?_)
        refine lv_iconst (v := 0) hx hb d_M_takesStep_60 (by decide) ?_
        refine lv_istore_n (lv' := [(3, .int 0), (2, .int 1), (0, .ref (am 0)), (1, .int (nI n))]) hx hb d_M_takesStep_61 rfl hl (by decide) rfl (fun ls hl => ?_)
        have loop_62_1 : ∀ (n9 : Nat) (c91 : Nat) (T1 : Nat → Int64) (hc1 : c91 ≤ n) (hA1 : ∀ j, j < c91 → T1 (40 + j) = R (32 + j)) (hB1 : ∀ j, (j < 40 ∨ 40 + c91 ≤ j) → T1 j = s_3 j) (hn9 : n - c91 < n9) (H : Heap) (locs : List Loc) (ls : Array Slot), va_P D classes [((am 0), .inr (8, [.int th, .ref (am 1), .ref (am 2), .ref (am 3), .ref (am 4), .ref (am 5), .long bu, .long he, .ref (am 6), .ref (am 7)])), ((am 1), .inl (ct 1, 334, .inr (.inl T1))), ((am 4), .inl (ct 1, 132, .inr (.inl G))), ((am 5), .inl (ct 1, 128, .inr (.inl R)))] H → va_D A [((am 0), .inr (8, [.int th, .ref (am 1), .ref (am 2), .ref (am 3), .ref (am 4), .ref (am 5), .long bu, .long he, .ref (am 6), .ref (am 7)])), ((am 1), .inl (ct 1, 334, .inr (.inl T1))), ((am 4), .inl (ct 1, 132, .inr (.inl G))), ((am 5), .inl (ct 1, 128, .inr (.inl R)))] → va_S A s.heap H locs → lv_has ls 4 [(0, .ref (am 0)), (1, .int (nI n)), (2, .int 1), (3, .int (nI c91))] → W p l e (rmW 4 0 0 99) s m args below meth c H locs (0) (0) (MQ below (QcW D [((am 0), .inr (8, [.int th, .ref (am 1), .ref (am 2), .ref (am 3), .ref (am 4), .ref (am 5), .long bu, .long he, .ref (am 6), .ref (am 7)])), ((am 1), .inl (ct 1, 334, .inr (.inl S))), ((am 4), .inl (ct 1, 132, .inr (.inl G))), ((am 5), .inl (ct 1, 128, .inr (.inl R)))] sz (fun v W1 => ∃ (s1 : Nat → Int64), v = none ∧ W1 = [((am 0), .inr (8, [.int th, .ref (am 1), .ref (am 2), .ref (am 3), .ref (am 4), .ref (am 5), .long bu, .long he, .ref (am 6), .ref (am 7)])), ((am 1), .inl (ct 1, 334, .inr (.inl s1))), ((am 4), .inl (ct 1, 132, .inr (.inl G))), ((am 5), .inl (ct 1, 128, .inr (.inl R)))] ∧ ((∀ j, j < n → s1 (8 + j) = R j ∧ s1 (40 + j) = R (32 + j) ∧ s1 (72 + j) = R (64 + j) ∧ s1 (104 + j) = R (96 + j)) ∧ s1 7 = S 7 + 1 ∧ (s1 136 = S 136 + (G 0 - G n) ∧ s1 137 = S 137 + (G 33 - G (33 + n)) ∧ s1 138 = S 138 + (G 66 - G (66 + n)) ∧ s1 139 = S 139 + (G 99 - G (99 + n))) ∧ (s1 140 = S 140 + he ∧ s1 141 = S 141 + bu) ∧ (∀ j, j < n → s1 (146 + j) = (if S (146 + j) < w_pres g (w_within (R j) (R (32 + j)) (R (64 + j))) then w_pres g (w_within (R j) (R (32 + j)) (R (64 + j))) else S (146 + j)) ∧ s1 (178 + j) = (if S (146 + j) < w_pres g (w_within (R j) (R (32 + j)) (R (64 + j))) then S 7 + 1 else S (178 + j))) ∧ ∀ j, j < 7 ∨ (142 ≤ j ∧ j < 146) ∨ 210 ≤ j → s1 j = S j))) args s 0 0 A) (F0 m 62 ls []) := by
          intro n9
          induction n9 with
          | zero => intro c91 T1 hc1 hA1 hB1 hn9 H locs ls hP hD hS hl; exact absurd hn9 (Nat.not_lt_zero _)
          | succ n9 ih_62_1 =>
            intro c91 T1 hc1 hA1 hB1 hn9 H locs ls hP hD hS hl
            refine lv_iload_n hx hb d_M_takesStep_62 rfl (lv_at hl 3 rfl) ?_
            refine lv_iload_n hx hb d_M_takesStep_63 rfl (lv_at hl 1 rfl) ?_
            refine q_icmp_ge_n (a := c91) (b := n) (tgt := 98) hx hb d_M_takesStep_64 (by decide) rfl rfl (by omega) (by omega) (fun h_64 => ?_) (fun h_64 => ?_)
            · refine lv_iinc (v := 2) (lv' := [(2, .int 2), (0, .ref (am 0)), (1, .int (nI n)), (3, .int (nI c91))]) hx hb d_M_takesStep_98 hl (k := 2) rfl (by decide) (by decide) rfl (fun ls hl => ?_)
              refine lv_goto (tgt := 21) hx hb d_M_takesStep_101 (by decide) ?_
              refine lv_iload_n hx hb d_M_takesStep_21 rfl (lv_at hl 0 rfl) ?_
              refine lv_iconst (v := 4) hx hb d_M_takesStep_22 (by decide) ?_
              refine lv_icmp_ge (tgt := 104) hx hb d_M_takesStep_23 (by decide) (fun h => absurd h (by decide)) (fun _ => ?_)
              refine lv_aload_n hx hb d_M_takesStep_26 rfl (lv_at hl 1 rfl) ?_
              refine q_get 0 1 i_M rfl hx hb hts hown hE hP rfl (by decide) x_937 rfl d_M_takesStep_27 ?_
              refine lv_sipush (v := 136) hx hb d_M_takesStep_30 (by decide) ?_
              refine lv_iload_n hx hb d_M_takesStep_33 rfl (lv_at hl 0 rfl) ?_
              refine q_iadd (v := 138) hx hb d_M_takesStep_34 (by decide) ?_
              refine lv_dup2_11 hx hb d_M_takesStep_35 rfl rfl ?_
              refine q_lald (k := 138) 1 hx hb hE hP rfl rfl (by omega) (by decide) d_M_takesStep_36 ?_
              refine lv_aload_n hx hb d_M_takesStep_37 rfl (lv_at hl 1 rfl) ?_
              refine q_get 0 4 i_M rfl hx hb hts hown hE hP rfl (by decide) x_940 rfl d_M_takesStep_38 ?_
              refine lv_bipush (v := 33) hx hb d_M_takesStep_41 (by decide) ?_
              refine lv_iload_n hx hb d_M_takesStep_43 rfl (lv_at hl 0 rfl) ?_
              refine q_imul (v := 66) hx hb d_M_takesStep_44 (by decide) ?_
              refine q_lald (k := 66) 2 hx hb hE hP rfl rfl (by omega) (by decide) d_M_takesStep_45 ?_
              refine lv_aload_n hx hb d_M_takesStep_46 rfl (lv_at hl 1 rfl) ?_
              refine q_get 0 4 i_M rfl hx hb hts hown hE hP rfl (by decide) x_940 rfl d_M_takesStep_47 ?_
              refine lv_bipush (v := 33) hx hb d_M_takesStep_50 (by decide) ?_
              refine lv_iload_n hx hb d_M_takesStep_52 rfl (lv_at hl 0 rfl) ?_
              refine q_imul (v := 66) hx hb d_M_takesStep_53 (by decide) ?_
              refine lv_iload_n hx hb d_M_takesStep_54 rfl (lv_at hl 2 rfl) ?_
              refine q_iadd (v := nI (66 + n)) hx hb d_M_takesStep_55 (nI_add 66 n) ?_
              refine q_lald (k := 66 + n) 2 hx hb hE hP rfl rfl (by omega) (by decide) d_M_takesStep_56 ?_
              refine lv_lsub hx hb d_M_takesStep_57 ?_
              refine lv_ladd hx hb d_M_takesStep_58 ?_
              obtain ⟨s_4, es_4⟩ : ∃ g9 : Nat → Int64, g9 = vp_updL T1 138 ((T1 138) + ((G 66) - (G (66 + n)))) := ⟨_, rfl⟩
              refine q_last (k := 138) 1 (ws1 := [((am 0), .inr (8, [.int th, .ref (am 1), .ref (am 2), .ref (am 3), .ref (am 4), .ref (am 5), .long bu, .long he, .ref (am 6), .ref (am 7)])), ((am 1), .inl (ct 1, 334, .inr (.inl s_4))), ((am 4), .inl (ct 1, 132, .inr (.inl G))), ((am 5), .inl (ct 1, 128, .inr (.inl R)))]) es_4 hx hb hE hP hD hS rfl rfl (by omega) (by decide) rfl d_M_takesStep_59 (fun H locs hP hD hS => ?_)
              refine lv_iconst (v := 0) hx hb d_M_takesStep_60 (by decide) ?_
              refine lv_istore_n (lv' := [(3, .int 0), (2, .int 2), (0, .ref (am 0)), (1, .int (nI n))]) hx hb d_M_takesStep_61 rfl hl (by decide) rfl (fun ls hl => ?_)
              have loop_62_2 : ∀ (n9 : Nat) (c92 : Nat) (T2 : Nat → Int64) (hc2 : c92 ≤ n) (hA2 : ∀ j, j < c92 → T2 (72 + j) = R (64 + j)) (hB2 : ∀ j, (j < 72 ∨ 72 + c92 ≤ j) → T2 j = s_4 j) (hn9 : n - c92 < n9) (H : Heap) (locs : List Loc) (ls : Array Slot), va_P D classes [((am 0), .inr (8, [.int th, .ref (am 1), .ref (am 2), .ref (am 3), .ref (am 4), .ref (am 5), .long bu, .long he, .ref (am 6), .ref (am 7)])), ((am 1), .inl (ct 1, 334, .inr (.inl T2))), ((am 4), .inl (ct 1, 132, .inr (.inl G))), ((am 5), .inl (ct 1, 128, .inr (.inl R)))] H → va_D A [((am 0), .inr (8, [.int th, .ref (am 1), .ref (am 2), .ref (am 3), .ref (am 4), .ref (am 5), .long bu, .long he, .ref (am 6), .ref (am 7)])), ((am 1), .inl (ct 1, 334, .inr (.inl T2))), ((am 4), .inl (ct 1, 132, .inr (.inl G))), ((am 5), .inl (ct 1, 128, .inr (.inl R)))] → va_S A s.heap H locs → lv_has ls 4 [(0, .ref (am 0)), (1, .int (nI n)), (2, .int 2), (3, .int (nI c92))] → W p l e (rmW 4 0 0 99) s m args below meth c H locs (0) (0) (MQ below (QcW D [((am 0), .inr (8, [.int th, .ref (am 1), .ref (am 2), .ref (am 3), .ref (am 4), .ref (am 5), .long bu, .long he, .ref (am 6), .ref (am 7)])), ((am 1), .inl (ct 1, 334, .inr (.inl S))), ((am 4), .inl (ct 1, 132, .inr (.inl G))), ((am 5), .inl (ct 1, 128, .inr (.inl R)))] sz (fun v W1 => ∃ (s1 : Nat → Int64), v = none ∧ W1 = [((am 0), .inr (8, [.int th, .ref (am 1), .ref (am 2), .ref (am 3), .ref (am 4), .ref (am 5), .long bu, .long he, .ref (am 6), .ref (am 7)])), ((am 1), .inl (ct 1, 334, .inr (.inl s1))), ((am 4), .inl (ct 1, 132, .inr (.inl G))), ((am 5), .inl (ct 1, 128, .inr (.inl R)))] ∧ ((∀ j, j < n → s1 (8 + j) = R j ∧ s1 (40 + j) = R (32 + j) ∧ s1 (72 + j) = R (64 + j) ∧ s1 (104 + j) = R (96 + j)) ∧ s1 7 = S 7 + 1 ∧ (s1 136 = S 136 + (G 0 - G n) ∧ s1 137 = S 137 + (G 33 - G (33 + n)) ∧ s1 138 = S 138 + (G 66 - G (66 + n)) ∧ s1 139 = S 139 + (G 99 - G (99 + n))) ∧ (s1 140 = S 140 + he ∧ s1 141 = S 141 + bu) ∧ (∀ j, j < n → s1 (146 + j) = (if S (146 + j) < w_pres g (w_within (R j) (R (32 + j)) (R (64 + j))) then w_pres g (w_within (R j) (R (32 + j)) (R (64 + j))) else S (146 + j)) ∧ s1 (178 + j) = (if S (146 + j) < w_pres g (w_within (R j) (R (32 + j)) (R (64 + j))) then S 7 + 1 else S (178 + j))) ∧ ∀ j, j < 7 ∨ (142 ≤ j ∧ j < 146) ∨ 210 ≤ j → s1 j = S j))) args s 0 0 A) (F0 m 62 ls []) := by
                intro n9
                induction n9 with
                | zero => intro c92 T2 hc2 hA2 hB2 hn9 H locs ls hP hD hS hl; exact absurd hn9 (Nat.not_lt_zero _)
                | succ n9 ih_62_2 =>
                  intro c92 T2 hc2 hA2 hB2 hn9 H locs ls hP hD hS hl
                  refine lv_iload_n hx hb d_M_takesStep_62 rfl (lv_at hl 3 rfl) ?_
                  refine lv_iload_n hx hb d_M_takesStep_63 rfl (lv_at hl 1 rfl) ?_
                  refine q_icmp_ge_n (a := c92) (b := n) (tgt := 98) hx hb d_M_takesStep_64 (by decide) rfl rfl (by omega) (by omega) (fun h_64 => ?_) (fun h_64 => ?_)
                  · refine lv_iinc (v := 3) (lv' := [(2, .int 3), (0, .ref (am 0)), (1, .int (nI n)), (3, .int (nI c92))]) hx hb d_M_takesStep_98 hl (k := 2) rfl (by decide) (by decide) rfl (fun ls hl => ?_)
                    refine lv_goto (tgt := 21) hx hb d_M_takesStep_101 (by decide) ?_
                    refine lv_iload_n hx hb d_M_takesStep_21 rfl (lv_at hl 0 rfl) ?_
                    refine lv_iconst (v := 4) hx hb d_M_takesStep_22 (by decide) ?_
                    refine lv_icmp_ge (tgt := 104) hx hb d_M_takesStep_23 (by decide) (fun h => absurd h (by decide)) (fun _ => ?_)
                    refine lv_aload_n hx hb d_M_takesStep_26 rfl (lv_at hl 1 rfl) ?_
                    refine q_get 0 1 i_M rfl hx hb hts hown hE hP rfl (by decide) x_937 rfl d_M_takesStep_27 ?_
                    refine lv_sipush (v := 136) hx hb d_M_takesStep_30 (by decide) ?_
                    refine lv_iload_n hx hb d_M_takesStep_33 rfl (lv_at hl 0 rfl) ?_
                    refine q_iadd (v := 139) hx hb d_M_takesStep_34 (by decide) ?_
                    refine lv_dup2_11 hx hb d_M_takesStep_35 rfl rfl ?_
                    refine q_lald (k := 139) 1 hx hb hE hP rfl rfl (by omega) (by decide) d_M_takesStep_36 ?_
                    refine lv_aload_n hx hb d_M_takesStep_37 rfl (lv_at hl 1 rfl) ?_
                    refine q_get 0 4 i_M rfl hx hb hts hown hE hP rfl (by decide) x_940 rfl d_M_takesStep_38 ?_
                    refine lv_bipush (v := 33) hx hb d_M_takesStep_41 (by decide) ?_
                    refine lv_iload_n hx hb d_M_takesStep_43 rfl (lv_at hl 0 rfl) ?_
                    refine q_imul (v := 99) hx hb d_M_takesStep_44 (by decide) ?_
                    refine q_lald (k := 99) 2 hx hb hE hP rfl rfl (by omega) (by decide) d_M_takesStep_45 ?_
                    refine lv_aload_n hx hb d_M_takesStep_46 rfl (lv_at hl 1 rfl) ?_
                    refine q_get 0 4 i_M rfl hx hb hts hown hE hP rfl (by decide) x_940 rfl d_M_takesStep_47 ?_
                    refine lv_bipush (v := 33) hx hb d_M_takesStep_50 (by decide) ?_
                    refine lv_iload_n hx hb d_M_takesStep_52 rfl (lv_at hl 0 rfl) ?_
                    refine q_imul (v := 99) hx hb d_M_takesStep_53 (by decide) ?_
                    refine lv_iload_n hx hb d_M_takesStep_54 rfl (lv_at hl 2 rfl) ?_
                    refine q_iadd (v := nI (99 + n)) hx hb d_M_takesStep_55 (nI_add 99 n) ?_
                    refine q_lald (k := 99 + n) 2 hx hb hE hP rfl rfl (by omega) (by decide) d_M_takesStep_56 ?_
                    refine lv_lsub hx hb d_M_takesStep_57 ?_
                    refine lv_ladd hx hb d_M_takesStep_58 ?_
                    obtain ⟨s_5, es_5⟩ : ∃ g9 : Nat → Int64, g9 = vp_updL T2 139 ((T2 139) + ((G 99) - (G (99 + n)))) := ⟨_, rfl⟩
                    refine q_last (k := 139) 1 (ws1 := [((am 0), .inr (8, [.int th, .ref (am 1), .ref (am 2), .ref (am 3), .ref (am 4), .ref (am 5), .long bu, .long he, .ref (am 6), .ref (am 7)])), ((am 1), .inl (ct 1, 334, .inr (.inl s_5))), ((am 4), .inl (ct 1, 132, .inr (.inl G))), ((am 5), .inl (ct 1, 128, .inr (.inl R)))]) es_5 hx hb hE hP hD hS rfl rfl (by omega) (by decide) rfl d_M_takesStep_59 (fun H locs hP hD hS => ?_)
                    refine lv_iconst (v := 0) hx hb d_M_takesStep_60 (by decide) ?_
                    refine lv_istore_n (lv' := [(3, .int 0), (2, .int 3), (0, .ref (am 0)), (1, .int (nI n))]) hx hb d_M_takesStep_61 rfl hl (by decide) rfl (fun ls hl => ?_)
                    have loop_62_3 : ∀ (n9 : Nat) (c93 : Nat) (T3 : Nat → Int64) (hc3 : c93 ≤ n) (hA3 : ∀ j, j < c93 → T3 (104 + j) = R (96 + j)) (hB3 : ∀ j, (j < 104 ∨ 104 + c93 ≤ j) → T3 j = s_5 j) (hn9 : n - c93 < n9) (H : Heap) (locs : List Loc) (ls : Array Slot), va_P D classes [((am 0), .inr (8, [.int th, .ref (am 1), .ref (am 2), .ref (am 3), .ref (am 4), .ref (am 5), .long bu, .long he, .ref (am 6), .ref (am 7)])), ((am 1), .inl (ct 1, 334, .inr (.inl T3))), ((am 4), .inl (ct 1, 132, .inr (.inl G))), ((am 5), .inl (ct 1, 128, .inr (.inl R)))] H → va_D A [((am 0), .inr (8, [.int th, .ref (am 1), .ref (am 2), .ref (am 3), .ref (am 4), .ref (am 5), .long bu, .long he, .ref (am 6), .ref (am 7)])), ((am 1), .inl (ct 1, 334, .inr (.inl T3))), ((am 4), .inl (ct 1, 132, .inr (.inl G))), ((am 5), .inl (ct 1, 128, .inr (.inl R)))] → va_S A s.heap H locs → lv_has ls 4 [(0, .ref (am 0)), (1, .int (nI n)), (2, .int 3), (3, .int (nI c93))] → W p l e (rmW 4 0 0 99) s m args below meth c H locs (0) (0) (MQ below (QcW D [((am 0), .inr (8, [.int th, .ref (am 1), .ref (am 2), .ref (am 3), .ref (am 4), .ref (am 5), .long bu, .long he, .ref (am 6), .ref (am 7)])), ((am 1), .inl (ct 1, 334, .inr (.inl S))), ((am 4), .inl (ct 1, 132, .inr (.inl G))), ((am 5), .inl (ct 1, 128, .inr (.inl R)))] sz (fun v W1 => ∃ (s1 : Nat → Int64), v = none ∧ W1 = [((am 0), .inr (8, [.int th, .ref (am 1), .ref (am 2), .ref (am 3), .ref (am 4), .ref (am 5), .long bu, .long he, .ref (am 6), .ref (am 7)])), ((am 1), .inl (ct 1, 334, .inr (.inl s1))), ((am 4), .inl (ct 1, 132, .inr (.inl G))), ((am 5), .inl (ct 1, 128, .inr (.inl R)))] ∧ ((∀ j, j < n → s1 (8 + j) = R j ∧ s1 (40 + j) = R (32 + j) ∧ s1 (72 + j) = R (64 + j) ∧ s1 (104 + j) = R (96 + j)) ∧ s1 7 = S 7 + 1 ∧ (s1 136 = S 136 + (G 0 - G n) ∧ s1 137 = S 137 + (G 33 - G (33 + n)) ∧ s1 138 = S 138 + (G 66 - G (66 + n)) ∧ s1 139 = S 139 + (G 99 - G (99 + n))) ∧ (s1 140 = S 140 + he ∧ s1 141 = S 141 + bu) ∧ (∀ j, j < n → s1 (146 + j) = (if S (146 + j) < w_pres g (w_within (R j) (R (32 + j)) (R (64 + j))) then w_pres g (w_within (R j) (R (32 + j)) (R (64 + j))) else S (146 + j)) ∧ s1 (178 + j) = (if S (146 + j) < w_pres g (w_within (R j) (R (32 + j)) (R (64 + j))) then S 7 + 1 else S (178 + j))) ∧ ∀ j, j < 7 ∨ (142 ≤ j ∧ j < 146) ∨ 210 ≤ j → s1 j = S j))) args s 0 0 A) (F0 m 62 ls []) := by
                      intro n9
                      induction n9 with
                      | zero => intro c93 T3 hc3 hA3 hB3 hn9 H locs ls hP hD hS hl; exact absurd hn9 (Nat.not_lt_zero _)
                      | succ n9 ih_62_3 =>
                        intro c93 T3 hc3 hA3 hB3 hn9 H locs ls hP hD hS hl
                        refine lv_iload_n hx hb d_M_takesStep_62 rfl (lv_at hl 3 rfl) ?_
                        refine lv_iload_n hx hb d_M_takesStep_63 rfl (lv_at hl 1 rfl) ?_
                        refine q_icmp_ge_n (a := c93) (b := n) (tgt := 98) hx hb d_M_takesStep_64 (by decide) rfl rfl (by omega) (by omega) (fun h_64 => ?_) (fun h_64 => ?_)
                        · refine lv_iinc (v := 4) (lv' := [(2, .int 4), (0, .ref (am 0)), (1, .int (nI n)), (3, .int (nI c93))]) hx hb d_M_takesStep_98 hl (k := 2) rfl (by decide) (by decide) rfl (fun ls hl => ?_)
                          refine lv_goto (tgt := 21) hx hb d_M_takesStep_101 (by decide) ?_
                          refine lv_iload_n hx hb d_M_takesStep_21 rfl (lv_at hl 0 rfl) ?_
                          refine lv_iconst (v := 4) hx hb d_M_takesStep_22 (by decide) ?_
                          refine lv_icmp_ge (tgt := 104) hx hb d_M_takesStep_23 (by decide) (fun _ => ?_) (fun h => absurd h (by decide))
                          refine lv_aload_n hx hb d_M_takesStep_104 rfl (lv_at hl 1 rfl) ?_
                          refine q_get 0 1 i_M rfl hx hb hts hown hE hP rfl (by decide) x_937 rfl d_M_takesStep_105 ?_
                          refine lv_sipush (v := 140) hx hb d_M_takesStep_108 (by decide) ?_
                          refine lv_dup2_11 hx hb d_M_takesStep_111 rfl rfl ?_
                          refine q_lald (k := 140) 1 hx hb hE hP rfl rfl (by omega) (by decide) d_M_takesStep_112 ?_
                          refine lv_aload_n hx hb d_M_takesStep_113 rfl (lv_at hl 1 rfl) ?_
                          refine q_get 0 7 i_M rfl hx hb hts hown hE hP rfl (by decide) x_943 rfl d_M_takesStep_114 ?_
                          refine lv_ladd hx hb d_M_takesStep_117 ?_
                          obtain ⟨s_6, es_6⟩ : ∃ g9 : Nat → Int64, g9 = vp_updL T3 140 ((T3 140) + he) := ⟨_, rfl⟩
                          refine q_last (k := 140) 1 (ws1 := [((am 0), .inr (8, [.int th, .ref (am 1), .ref (am 2), .ref (am 3), .ref (am 4), .ref (am 5), .long bu, .long he, .ref (am 6), .ref (am 7)])), ((am 1), .inl (ct 1, 334, .inr (.inl s_6))), ((am 4), .inl (ct 1, 132, .inr (.inl G))), ((am 5), .inl (ct 1, 128, .inr (.inl R)))]) es_6 hx hb hE hP hD hS rfl rfl (by omega) (by decide) rfl d_M_takesStep_118 (fun H locs hP hD hS => ?_)
                          refine lv_aload_n hx hb d_M_takesStep_119 rfl (lv_at hl 1 rfl) ?_
                          refine q_get 0 1 i_M rfl hx hb hts hown hE hP rfl (by decide) x_937 rfl d_M_takesStep_120 ?_
                          refine lv_sipush (v := 141) hx hb d_M_takesStep_123 (by decide) ?_
                          refine lv_dup2_11 hx hb d_M_takesStep_126 rfl rfl ?_
                          refine q_lald (k := 141) 1 hx hb hE hP rfl rfl (by omega) (by decide) d_M_takesStep_127 ?_
                          refine lv_aload_n hx hb d_M_takesStep_128 rfl (lv_at hl 1 rfl) ?_
                          refine q_get 0 6 i_M rfl hx hb hts hown hE hP rfl (by decide) x_942 rfl d_M_takesStep_129 ?_
                          refine lv_ladd hx hb d_M_takesStep_132 ?_
                          obtain ⟨s_7, es_7⟩ : ∃ g9 : Nat → Int64, g9 = vp_updL s_6 141 ((s_6 141) + bu) := ⟨_, rfl⟩
                          refine q_last (k := 141) 1 (ws1 := [((am 0), .inr (8, [.int th, .ref (am 1), .ref (am 2), .ref (am 3), .ref (am 4), .ref (am 5), .long bu, .long he, .ref (am 6), .ref (am 7)])), ((am 1), .inl (ct 1, 334, .inr (.inl s_7))), ((am 4), .inl (ct 1, 132, .inr (.inl G))), ((am 5), .inl (ct 1, 128, .inr (.inl R)))]) es_7 hx hb hE hP hD hS rfl rfl (by omega) (by decide) rfl d_M_takesStep_133 (fun H locs hP hD hS => ?_)
                          obtain ⟨V, eV⟩ : ∃ V9 : Nat → Int64, V9 = s_7 := ⟨_, rfl⟩
                          rw [← eV] at hP hD
                          have hV0 : ∀ j, j < n → V (8 + j) = R j ∧ V (40 + j) = R (32 + j) ∧ V (72 + j) = R (64 + j) ∧ V (104 + j) = R (96 + j) := by
                            intro j hj
                            refine ⟨?_, ?_, ?_, ?_⟩
                            · simp (disch := omega) only [eV, es_7, es_6, es_5, es_4, es_3, es_2, es_1, hB0, hB1, hB2, hB3, pk_uLn, pk_uLs]; exact hA0 j (by omega)
                            · simp (disch := omega) only [eV, es_7, es_6, es_5, es_4, es_3, es_2, es_1, hB0, hB1, hB2, hB3, pk_uLn, pk_uLs]; exact hA1 j (by omega)
                            · simp (disch := omega) only [eV, es_7, es_6, es_5, es_4, es_3, es_2, es_1, hB0, hB1, hB2, hB3, pk_uLn, pk_uLs]; exact hA2 j (by omega)
                            · simp (disch := omega) only [eV, es_7, es_6, es_5, es_4, es_3, es_2, es_1, hB0, hB1, hB2, hB3, pk_uLn, pk_uLs]; exact hA3 j (by omega)
                          have hV1 : V 7 = S 7 + 1 := by simp (disch := omega) only [eV, es_7, es_6, es_5, es_4, es_3, es_2, es_1, hB0, hB1, hB2, hB3, pk_uLn, pk_uLs]
                          have hV2 : V 136 = S 136 + (G 0 - G n) ∧ V 137 = S 137 + (G 33 - G (33 + n)) ∧ V 138 = S 138 + (G 66 - G (66 + n)) ∧ V 139 = S 139 + (G 99 - G (99 + n)) := by
                            refine ⟨?_, ?_, ?_, ?_⟩ <;> simp (disch := omega) only [eV, es_7, es_6, es_5, es_4, es_3, es_2, es_1, hB0, hB1, hB2, hB3, pk_uLn, pk_uLs]
                          have hV3 : V 140 = S 140 + he ∧ V 141 = S 141 + bu := by
                            refine ⟨?_, ?_⟩ <;> simp (disch := omega) only [eV, es_7, es_6, es_5, es_4, es_3, es_2, es_1, hB0, hB1, hB2, hB3, pk_uLn, pk_uLs]
                          have hV4 : ∀ j, j < 7 ∨ (142 ≤ j ∧ j < 210) ∨ 210 ≤ j → V j = S j := by
                            intro j hj
                            simp (disch := omega) only [eV, es_7, es_6, es_5, es_4, es_3, es_2, es_1, hB0, hB1, hB2, hB3, pk_uLn, pk_uLs]
                          refine lv_iconst (v := 0) hx hb d_M_takesStep_134 (by decide) ?_
                          refine lv_istore_n (lv' := [(2, .int 0), (0, .ref (am 0)), (1, .int (nI n)), (3, .int (nI c93))]) hx hb d_M_takesStep_135 rfl hl (by decide) rfl (fun ls hl => ?_)
                          have loop_136 : ∀ (n9 : Nat) (i : Nat) (Tp : Nat → Int64) (hi : i ≤ n) (hp1 : ∀ j, j < i → Tp (146 + j) = (if V (146 + j) < w_pres g (w_within (R j) (R (32 + j)) (R (64 + j))) then w_pres g (w_within (R j) (R (32 + j)) (R (64 + j))) else V (146 + j)) ∧ Tp (178 + j) = (if V (146 + j) < w_pres g (w_within (R j) (R (32 + j)) (R (64 + j))) then V 7 else V (178 + j))) (hp2 : ∀ j, (j < 146 ∨ (146 + i ≤ j ∧ j < 178) ∨ 178 + i ≤ j) → Tp j = V j) (hn9 : n - i < n9) (H : Heap) (locs : List Loc) (ls : Array Slot), va_P D classes [((am 0), .inr (8, [.int th, .ref (am 1), .ref (am 2), .ref (am 3), .ref (am 4), .ref (am 5), .long bu, .long he, .ref (am 6), .ref (am 7)])), ((am 1), .inl (ct 1, 334, .inr (.inl Tp))), ((am 4), .inl (ct 1, 132, .inr (.inl G))), ((am 5), .inl (ct 1, 128, .inr (.inl R)))] H → va_D A [((am 0), .inr (8, [.int th, .ref (am 1), .ref (am 2), .ref (am 3), .ref (am 4), .ref (am 5), .long bu, .long he, .ref (am 6), .ref (am 7)])), ((am 1), .inl (ct 1, 334, .inr (.inl Tp))), ((am 4), .inl (ct 1, 132, .inr (.inl G))), ((am 5), .inl (ct 1, 128, .inr (.inl R)))] → va_S A s.heap H locs → lv_has ls 4 [(0, .ref (am 0)), (1, .int (nI n)), (2, .int (nI i))] → W p l e (rmW 4 0 0 99) s m args below meth c H locs (0) (0) (MQ below (QcW D [((am 0), .inr (8, [.int th, .ref (am 1), .ref (am 2), .ref (am 3), .ref (am 4), .ref (am 5), .long bu, .long he, .ref (am 6), .ref (am 7)])), ((am 1), .inl (ct 1, 334, .inr (.inl S))), ((am 4), .inl (ct 1, 132, .inr (.inl G))), ((am 5), .inl (ct 1, 128, .inr (.inl R)))] sz (fun v W1 => ∃ (s1 : Nat → Int64), v = none ∧ W1 = [((am 0), .inr (8, [.int th, .ref (am 1), .ref (am 2), .ref (am 3), .ref (am 4), .ref (am 5), .long bu, .long he, .ref (am 6), .ref (am 7)])), ((am 1), .inl (ct 1, 334, .inr (.inl s1))), ((am 4), .inl (ct 1, 132, .inr (.inl G))), ((am 5), .inl (ct 1, 128, .inr (.inl R)))] ∧ ((∀ j, j < n → s1 (8 + j) = R j ∧ s1 (40 + j) = R (32 + j) ∧ s1 (72 + j) = R (64 + j) ∧ s1 (104 + j) = R (96 + j)) ∧ s1 7 = S 7 + 1 ∧ (s1 136 = S 136 + (G 0 - G n) ∧ s1 137 = S 137 + (G 33 - G (33 + n)) ∧ s1 138 = S 138 + (G 66 - G (66 + n)) ∧ s1 139 = S 139 + (G 99 - G (99 + n))) ∧ (s1 140 = S 140 + he ∧ s1 141 = S 141 + bu) ∧ (∀ j, j < n → s1 (146 + j) = (if S (146 + j) < w_pres g (w_within (R j) (R (32 + j)) (R (64 + j))) then w_pres g (w_within (R j) (R (32 + j)) (R (64 + j))) else S (146 + j)) ∧ s1 (178 + j) = (if S (146 + j) < w_pres g (w_within (R j) (R (32 + j)) (R (64 + j))) then S 7 + 1 else S (178 + j))) ∧ ∀ j, j < 7 ∨ (142 ≤ j ∧ j < 146) ∨ 210 ≤ j → s1 j = S j))) args s 0 0 A) (F0 m 136 ls []) := by
                            intro n9
                            induction n9 with
                            | zero => intro i Tp hi hp1 hp2 hn9 H locs ls hP hD hS hl; exact absurd hn9 (Nat.not_lt_zero _)
                            | succ n9 ih_136 =>
                              intro i Tp hi hp1 hp2 hn9 H locs ls hP hD hS hl
                              refine lv_iload_n hx hb d_M_takesStep_136 rfl (lv_at hl 2 rfl) ?_
                              refine lv_iload_n hx hb d_M_takesStep_137 rfl (lv_at hl 1 rfl) ?_
                              refine q_icmp_ge_n (a := i) (b := n) (tgt := 198) hx hb d_M_takesStep_138 (by decide) rfl rfl (by omega) (by omega) (fun h_138 => ?_) (fun h_138 => ?_)
                              · exact rW_v hx hb hr hlk hAe hS hP hD (Nat.le_of_ble_eq_true rfl) (Nat.le_of_ble_eq_true rfl) d_M_takesStep_198 ⟨Tp, rfl, rfl, ⟨fun j hj => by rw [hp2 _ (by omega), hp2 _ (by omega), hp2 _ (by omega), hp2 _ (by omega)]; exact hV0 j hj, (hp2 7 (by omega)).trans hV1, by rw [hp2 136 (by omega), hp2 137 (by omega), hp2 138 (by omega), hp2 139 (by omega)]; exact hV2, by rw [hp2 140 (by omega), hp2 141 (by omega)]; exact hV3, fun j hj => by have := hp1 j (by omega); rw [hV4 (146 + j) (by omega), hV4 (178 + j) (by omega), hV1] at this; exact this, fun j hj => (hp2 j (by omega)).trans (hV4 j (by omega))⟩⟩
                              · refine lv_aload_n hx hb d_M_takesStep_141 rfl (lv_at hl 0 rfl) ?_
                                refine lv_iload_n hx hb d_M_takesStep_142 rfl (lv_at hl 2 rfl) ?_
                                refine cRV (As := [.int (nI i)]) (rest := []) (q9 := 0) (ci := 8) K_M_pressureOf x_1046 hx hb hml hown hts hE hV hS (c_M_pressureOf l D ct st am th bu he Tp g i (hg) ((hp2 0 (by omega)).trans ((hV4 0 (by omega)).trans hS0)) (by omega) (by rw [hp2 _ (by omega), (hV0 i (by omega)).1]; exact hR i (by omega))) (hP.sub (ws' := [((am 0), .inr (8, [.int th, .ref (am 1), .ref (am 2), .ref (am 3), .ref (am 4), .ref (am 5), .long bu, .long he, .ref (am 6), .ref (am 7)])), ((am 1), .inl (ct 1, 334, .inr (.inl Tp)))]) [0, 1] rfl) rfl hP rfl rfl hl.1 rfl (Nat.le_of_ble_eq_true rfl) d_M_takesStep_143 (Nat.le_of_ble_eq_true rfl) (Nat.le_of_ble_eq_true rfl) ⟨Nat.le_of_ble_eq_true rfl, Nat.le_of_ble_eq_true rfl⟩ ?_
                                refine q_topl (v := w_pres g (w_within (R i) (R (32 + i)) (R (64 + i)))) (by unfold w_pr; rw [show sM Tp i = V (8 + i) from hp2 _ (by omega), show sP Tp i = V (40 + i) from hp2 _ (by omega), show sE Tp i = V (72 + i) from hp2 _ (by omega), (hV0 i (by omega)).1, (hV0 i (by omega)).2.1, (hV0 i (by omega)).2.2.1]) ?_
                                refine lv_aload_n hx hb d_M_takesStep_146 rfl (lv_at hl 0 rfl) ?_
                                refine q_get 0 1 i_M rfl hx hb hts hown hE hP rfl (by decide) x_937 rfl d_M_takesStep_147 ?_
                                refine lv_sipush (v := 146) hx hb d_M_takesStep_150 (by decide) ?_
                                refine lv_iload_n hx hb d_M_takesStep_153 rfl (lv_at hl 2 rfl) ?_
                                refine q_iadd (v := nI (146 + i)) hx hb d_M_takesStep_154 (nI_add 146 i) ?_
                                refine q_lald (k := 146 + i) 1 hx hb hE hP rfl rfl (by omega) (by decide) d_M_takesStep_155 ?_
                                refine q_topl (v := V (146 + i)) (hp2 _ (by omega)) ?_
                                refine W.lcmp hx hb d_M_takesStep_156 ?_
                                refine q_cmp_le (tgt := 192) hx hb d_M_takesStep_157 (by decide) (fun h_157 => ?_) (fun h_157 => ?_)
                                · refine lv_iinc (v := (nI (i + 1))) (lv' := [(2, .int (nI (i + 1))), (0, .ref (am 0)), (1, .int (nI n))]) hx hb d_M_takesStep_192 hl (k := 2) rfl (nI_1 _) (by decide) rfl (fun ls hl => ?_)
                                  refine lv_goto (tgt := 136) hx hb d_M_takesStep_195 (by decide) ?_
                                  exact ih_136 (i + 1) Tp (by omega) (fun j hj => by
                                        rcases Nat.lt_succ_iff_lt_or_eq.mp hj with q | rfl
                                        · exact hp1 j q
                                        · rw [if_neg (Int64.not_lt.mpr h_157), if_neg (Int64.not_lt.mpr h_157)]; exact ⟨hp2 _ (by omega), hp2 _ (by omega)⟩) (fun j hj => hp2 j (by omega)) (by omega) _ _ _ hP hD hS (lv_sub hl [1, 2, 0] rfl)
                                · refine lv_aload_n hx hb d_M_takesStep_160 rfl (lv_at hl 0 rfl) ?_
                                  refine q_get 0 1 i_M rfl hx hb hts hown hE hP rfl (by decide) x_937 rfl d_M_takesStep_161 ?_
                                  refine lv_sipush (v := 146) hx hb d_M_takesStep_164 (by decide) ?_
                                  refine lv_iload_n hx hb d_M_takesStep_167 rfl (lv_at hl 2 rfl) ?_
                                  refine q_iadd (v := nI (146 + i)) hx hb d_M_takesStep_168 (nI_add 146 i) ?_
                                  refine lv_aload_n hx hb d_M_takesStep_169 rfl (lv_at hl 0 rfl) ?_
                                  refine lv_iload_n hx hb d_M_takesStep_170 rfl (lv_at hl 2 rfl) ?_
                                  refine cRV (As := [.int (nI i)]) (rest := [.int (nI (146 + i)), .ref (am 1)]) (q9 := 0) (ci := 8) K_M_pressureOf x_1046 hx hb hml hown hts hE hV hS (c_M_pressureOf l D ct st am th bu he Tp g i (hg) ((hp2 0 (by omega)).trans ((hV4 0 (by omega)).trans hS0)) (by omega) (by rw [hp2 _ (by omega), (hV0 i (by omega)).1]; exact hR i (by omega))) (hP.sub (ws' := [((am 0), .inr (8, [.int th, .ref (am 1), .ref (am 2), .ref (am 3), .ref (am 4), .ref (am 5), .long bu, .long he, .ref (am 6), .ref (am 7)])), ((am 1), .inl (ct 1, 334, .inr (.inl Tp)))]) [0, 1] rfl) rfl hP rfl rfl hl.1 rfl (Nat.le_of_ble_eq_true rfl) d_M_takesStep_171 (Nat.le_of_ble_eq_true rfl) (Nat.le_of_ble_eq_true rfl) ⟨Nat.le_of_ble_eq_true rfl, Nat.le_of_ble_eq_true rfl⟩ ?_
                                  refine q_topl (v := w_pres g (w_within (R i) (R (32 + i)) (R (64 + i)))) (by unfold w_pr; rw [show sM Tp i = V (8 + i) from hp2 _ (by omega), show sP Tp i = V (40 + i) from hp2 _ (by omega), show sE Tp i = V (72 + i) from hp2 _ (by omega), (hV0 i (by omega)).1, (hV0 i (by omega)).2.1, (hV0 i (by omega)).2.2.1]) ?_
                                  obtain ⟨s_8, es_8⟩ : ∃ g9 : Nat → Int64, g9 = vp_updL Tp (146 + i) (w_pres g (w_within (R i) (R (32 + i)) (R (64 + i)))) := ⟨_, rfl⟩
                                  refine q_last (k := 146 + i) 1 (ws1 := [((am 0), .inr (8, [.int th, .ref (am 1), .ref (am 2), .ref (am 3), .ref (am 4), .ref (am 5), .long bu, .long he, .ref (am 6), .ref (am 7)])), ((am 1), .inl (ct 1, 334, .inr (.inl s_8))), ((am 4), .inl (ct 1, 132, .inr (.inl G))), ((am 5), .inl (ct 1, 128, .inr (.inl R)))]) es_8 hx hb hE hP hD hS rfl rfl (by omega) (by decide) rfl d_M_takesStep_174 (fun H locs hP hD hS => ?_)
                                  refine lv_aload_n hx hb d_M_takesStep_175 rfl (lv_at hl 0 rfl) ?_
                                  refine q_get 0 1 i_M rfl hx hb hts hown hE hP rfl (by decide) x_937 rfl d_M_takesStep_176 ?_
                                  refine lv_sipush (v := 178) hx hb d_M_takesStep_179 (by decide) ?_
                                  refine lv_iload_n hx hb d_M_takesStep_182 rfl (lv_at hl 2 rfl) ?_
                                  refine q_iadd (v := nI (178 + i)) hx hb d_M_takesStep_183 (nI_add 178 i) ?_
                                  refine lv_aload_n hx hb d_M_takesStep_184 rfl (lv_at hl 0 rfl) ?_
                                  refine q_get 0 1 i_M rfl hx hb hts hown hE hP rfl (by decide) x_937 rfl d_M_takesStep_185 ?_
                                  refine lv_bipush (v := 7) hx hb d_M_takesStep_188 (by decide) ?_
                                  refine q_lald (k := 7) 1 hx hb hE hP rfl rfl (by omega) (by decide) d_M_takesStep_190 ?_
                                  refine q_topl (v := V 7) (by simp (disch := omega) only [es_8, pk_uLn]; exact hp2 _ (by omega)) ?_
                                  obtain ⟨s_9, es_9⟩ : ∃ g9 : Nat → Int64, g9 = vp_updL s_8 (178 + i) (V 7) := ⟨_, rfl⟩
                                  refine q_last (k := 178 + i) 1 (ws1 := [((am 0), .inr (8, [.int th, .ref (am 1), .ref (am 2), .ref (am 3), .ref (am 4), .ref (am 5), .long bu, .long he, .ref (am 6), .ref (am 7)])), ((am 1), .inl (ct 1, 334, .inr (.inl s_9))), ((am 4), .inl (ct 1, 132, .inr (.inl G))), ((am 5), .inl (ct 1, 128, .inr (.inl R)))]) es_9 hx hb hE hP hD hS rfl rfl (by omega) (by decide) rfl d_M_takesStep_191 (fun H locs hP hD hS => ?_)
                                  refine lv_iinc (v := (nI (i + 1))) (lv' := [(2, .int (nI (i + 1))), (0, .ref (am 0)), (1, .int (nI n))]) hx hb d_M_takesStep_192 hl (k := 2) rfl (nI_1 _) (by decide) rfl (fun ls hl => ?_)
                                  refine lv_goto (tgt := 136) hx hb d_M_takesStep_195 (by decide) ?_
                                  exact ih_136 (i + 1) s_9 (by omega) (fun j hj => by
                                        rcases Nat.lt_succ_iff_lt_or_eq.mp hj with q | rfl
                                        · have := hp1 j q
                                          exact ⟨by simp (disch := omega) only [es_9, es_8, pk_uLn]; exact this.1, by simp (disch := omega) only [es_9, es_8, pk_uLn]; exact this.2⟩
                                        · rw [if_pos (Int64.not_le.mp h_157), if_pos (Int64.not_le.mp h_157)]; exact ⟨by simp (disch := omega) only [es_9, es_8, pk_uLn, pk_uLs], by simp (disch := omega) only [es_9, es_8, pk_uLn, pk_uLs]⟩) (fun j hj => by simp (disch := omega) only [es_9, es_8, pk_uLn]; exact hp2 j (by omega)) (by omega) _ _ _ hP hD hS (lv_sub hl [1, 2, 0] rfl)
                          exact loop_136 _ 0 V (by omega) (fun j hj => absurd hj (Nat.not_lt_zero _)) (fun _ _ => rfl) (Nat.lt_succ_self _) _ _ _ hP hD hS (lv_sub hl [1, 2, 0] rfl)
                        · refine lv_aload_n hx hb d_M_takesStep_67 rfl (lv_at hl 0 rfl) ?_
                          refine q_get 0 1 i_M rfl hx hb hts hown hE hP rfl (by decide) x_937 rfl d_M_takesStep_68 ?_
                          refine lv_bipush (v := 8) hx hb d_M_takesStep_71 (by decide) ?_
                          refine lv_bipush (v := 32) hx hb d_M_takesStep_73 (by decide) ?_
                          refine lv_iload_n hx hb d_M_takesStep_75 rfl (lv_at hl 2 rfl) ?_
                          refine q_imul (v := 96) hx hb d_M_takesStep_76 (by decide) ?_
                          refine q_iadd (v := 104) hx hb d_M_takesStep_77 (by decide) ?_
                          refine lv_iload_n hx hb d_M_takesStep_78 rfl (lv_at hl 3 rfl) ?_
                          refine q_iadd (v := nI (104 + c93)) hx hb d_M_takesStep_79 (nI_add 104 c93) ?_
                          refine lv_aload_n hx hb d_M_takesStep_80 rfl (lv_at hl 0 rfl) ?_
                          refine q_get 0 5 i_M rfl hx hb hts hown hE hP rfl (by decide) x_941 rfl d_M_takesStep_81 ?_
                          refine lv_bipush (v := 32) hx hb d_M_takesStep_84 (by decide) ?_
                          refine lv_iload_n hx hb d_M_takesStep_86 rfl (lv_at hl 2 rfl) ?_
                          refine q_imul (v := 96) hx hb d_M_takesStep_87 (by decide) ?_
                          refine lv_iload_n hx hb d_M_takesStep_88 rfl (lv_at hl 3 rfl) ?_
                          refine q_iadd (v := nI (96 + c93)) hx hb d_M_takesStep_89 (nI_add 96 c93) ?_
                          refine q_lald (k := 96 + c93) 3 hx hb hE hP rfl rfl (by omega) (by decide) d_M_takesStep_90 ?_
                          obtain ⟨s_10, es_10⟩ : ∃ g9 : Nat → Int64, g9 = vp_updL T3 (104 + c93) (R (96 + c93)) := ⟨_, rfl⟩
                          refine q_last (k := 104 + c93) 1 (ws1 := [((am 0), .inr (8, [.int th, .ref (am 1), .ref (am 2), .ref (am 3), .ref (am 4), .ref (am 5), .long bu, .long he, .ref (am 6), .ref (am 7)])), ((am 1), .inl (ct 1, 334, .inr (.inl s_10))), ((am 4), .inl (ct 1, 132, .inr (.inl G))), ((am 5), .inl (ct 1, 128, .inr (.inl R)))]) es_10 hx hb hE hP hD hS rfl rfl (by omega) (by decide) rfl d_M_takesStep_91 (fun H locs hP hD hS => ?_)
                          refine lv_iinc (v := (nI (c93 + 1))) (lv' := [(3, .int (nI (c93 + 1))), (0, .ref (am 0)), (1, .int (nI n)), (2, .int 3)]) hx hb d_M_takesStep_92 hl (k := 3) rfl (nI_1 _) (by decide) rfl (fun ls hl => ?_)
                          refine lv_goto (tgt := 62) hx hb d_M_takesStep_95 (by decide) ?_
                          exact ih_62_3 (c93 + 1) s_10 (by omega) (fun j hj => by
                                rcases Nat.lt_succ_iff_lt_or_eq.mp hj with q | rfl
                                · simp (disch := omega) only [es_10, pk_uLn]; exact hA3 j q
                                · simp only [es_10, pk_uLs]) (fun j hj => by simp (disch := omega) only [es_10, pk_uLn]; exact hB3 j (by omega)) (by omega) _ _ _ hP hD hS (lv_sub hl [1, 2, 3, 0] rfl)
                    exact loop_62_3 _ 0 s_5 (by omega) (fun j hj => absurd hj (Nat.not_lt_zero _)) (fun _ _ => rfl) (Nat.lt_succ_self _) _ _ _ hP hD hS (lv_sub hl [2, 3, 1, 0] rfl)
                  · refine lv_aload_n hx hb d_M_takesStep_67 rfl (lv_at hl 0 rfl) ?_
                    refine q_get 0 1 i_M rfl hx hb hts hown hE hP rfl (by decide) x_937 rfl d_M_takesStep_68 ?_
                    refine lv_bipush (v := 8) hx hb d_M_takesStep_71 (by decide) ?_
                    refine lv_bipush (v := 32) hx hb d_M_takesStep_73 (by decide) ?_
                    refine lv_iload_n hx hb d_M_takesStep_75 rfl (lv_at hl 2 rfl) ?_
                    refine q_imul (v := 64) hx hb d_M_takesStep_76 (by decide) ?_
                    refine q_iadd (v := 72) hx hb d_M_takesStep_77 (by decide) ?_
                    refine lv_iload_n hx hb d_M_takesStep_78 rfl (lv_at hl 3 rfl) ?_
                    refine q_iadd (v := nI (72 + c92)) hx hb d_M_takesStep_79 (nI_add 72 c92) ?_
                    refine lv_aload_n hx hb d_M_takesStep_80 rfl (lv_at hl 0 rfl) ?_
                    refine q_get 0 5 i_M rfl hx hb hts hown hE hP rfl (by decide) x_941 rfl d_M_takesStep_81 ?_
                    refine lv_bipush (v := 32) hx hb d_M_takesStep_84 (by decide) ?_
                    refine lv_iload_n hx hb d_M_takesStep_86 rfl (lv_at hl 2 rfl) ?_
                    refine q_imul (v := 64) hx hb d_M_takesStep_87 (by decide) ?_
                    refine lv_iload_n hx hb d_M_takesStep_88 rfl (lv_at hl 3 rfl) ?_
                    refine q_iadd (v := nI (64 + c92)) hx hb d_M_takesStep_89 (nI_add 64 c92) ?_
                    refine q_lald (k := 64 + c92) 3 hx hb hE hP rfl rfl (by omega) (by decide) d_M_takesStep_90 ?_
                    obtain ⟨s_11, es_11⟩ : ∃ g9 : Nat → Int64, g9 = vp_updL T2 (72 + c92) (R (64 + c92)) := ⟨_, rfl⟩
                    refine q_last (k := 72 + c92) 1 (ws1 := [((am 0), .inr (8, [.int th, .ref (am 1), .ref (am 2), .ref (am 3), .ref (am 4), .ref (am 5), .long bu, .long he, .ref (am 6), .ref (am 7)])), ((am 1), .inl (ct 1, 334, .inr (.inl s_11))), ((am 4), .inl (ct 1, 132, .inr (.inl G))), ((am 5), .inl (ct 1, 128, .inr (.inl R)))]) es_11 hx hb hE hP hD hS rfl rfl (by omega) (by decide) rfl d_M_takesStep_91 (fun H locs hP hD hS => ?_)
                    refine lv_iinc (v := (nI (c92 + 1))) (lv' := [(3, .int (nI (c92 + 1))), (0, .ref (am 0)), (1, .int (nI n)), (2, .int 2)]) hx hb d_M_takesStep_92 hl (k := 3) rfl (nI_1 _) (by decide) rfl (fun ls hl => ?_)
                    refine lv_goto (tgt := 62) hx hb d_M_takesStep_95 (by decide) ?_
                    exact ih_62_2 (c92 + 1) s_11 (by omega) (fun j hj => by
                                rcases Nat.lt_succ_iff_lt_or_eq.mp hj with q | rfl
                                · simp (disch := omega) only [es_11, pk_uLn]; exact hA2 j q
                                · simp only [es_11, pk_uLs]) (fun j hj => by simp (disch := omega) only [es_11, pk_uLn]; exact hB2 j (by omega)) (by omega) _ _ _ hP hD hS (lv_sub hl [1, 2, 3, 0] rfl)
              exact loop_62_2 _ 0 s_4 (by omega) (fun j hj => absurd hj (Nat.not_lt_zero _)) (fun _ _ => rfl) (Nat.lt_succ_self _) _ _ _ hP hD hS (lv_sub hl [2, 3, 1, 0] rfl)
            · refine lv_aload_n hx hb d_M_takesStep_67 rfl (lv_at hl 0 rfl) ?_
              refine q_get 0 1 i_M rfl hx hb hts hown hE hP rfl (by decide) x_937 rfl d_M_takesStep_68 ?_
              refine lv_bipush (v := 8) hx hb d_M_takesStep_71 (by decide) ?_
              refine lv_bipush (v := 32) hx hb d_M_takesStep_73 (by decide) ?_
              refine lv_iload_n hx hb d_M_takesStep_75 rfl (lv_at hl 2 rfl) ?_
              refine q_imul (v := 32) hx hb d_M_takesStep_76 (by decide) ?_
              refine q_iadd (v := 40) hx hb d_M_takesStep_77 (by decide) ?_
              refine lv_iload_n hx hb d_M_takesStep_78 rfl (lv_at hl 3 rfl) ?_
              refine q_iadd (v := nI (40 + c91)) hx hb d_M_takesStep_79 (nI_add 40 c91) ?_
              refine lv_aload_n hx hb d_M_takesStep_80 rfl (lv_at hl 0 rfl) ?_
              refine q_get 0 5 i_M rfl hx hb hts hown hE hP rfl (by decide) x_941 rfl d_M_takesStep_81 ?_
              refine lv_bipush (v := 32) hx hb d_M_takesStep_84 (by decide) ?_
              refine lv_iload_n hx hb d_M_takesStep_86 rfl (lv_at hl 2 rfl) ?_
              refine q_imul (v := 32) hx hb d_M_takesStep_87 (by decide) ?_
              refine lv_iload_n hx hb d_M_takesStep_88 rfl (lv_at hl 3 rfl) ?_
              refine q_iadd (v := nI (32 + c91)) hx hb d_M_takesStep_89 (nI_add 32 c91) ?_
              refine q_lald (k := 32 + c91) 3 hx hb hE hP rfl rfl (by omega) (by decide) d_M_takesStep_90 ?_
              obtain ⟨s_12, es_12⟩ : ∃ g9 : Nat → Int64, g9 = vp_updL T1 (40 + c91) (R (32 + c91)) := ⟨_, rfl⟩
              refine q_last (k := 40 + c91) 1 (ws1 := [((am 0), .inr (8, [.int th, .ref (am 1), .ref (am 2), .ref (am 3), .ref (am 4), .ref (am 5), .long bu, .long he, .ref (am 6), .ref (am 7)])), ((am 1), .inl (ct 1, 334, .inr (.inl s_12))), ((am 4), .inl (ct 1, 132, .inr (.inl G))), ((am 5), .inl (ct 1, 128, .inr (.inl R)))]) es_12 hx hb hE hP hD hS rfl rfl (by omega) (by decide) rfl d_M_takesStep_91 (fun H locs hP hD hS => ?_)
              refine lv_iinc (v := (nI (c91 + 1))) (lv' := [(3, .int (nI (c91 + 1))), (0, .ref (am 0)), (1, .int (nI n)), (2, .int 1)]) hx hb d_M_takesStep_92 hl (k := 3) rfl (nI_1 _) (by decide) rfl (fun ls hl => ?_)
              refine lv_goto (tgt := 62) hx hb d_M_takesStep_95 (by decide) ?_
              exact ih_62_1 (c91 + 1) s_12 (by omega) (fun j hj => by
                                rcases Nat.lt_succ_iff_lt_or_eq.mp hj with q | rfl
                                · simp (disch := omega) only [es_12, pk_uLn]; exact hA1 j q
                                · simp only [es_12, pk_uLs]) (fun j hj => by simp (disch := omega) only [es_12, pk_uLn]; exact hB1 j (by omega)) (by omega) _ _ _ hP hD hS (lv_sub hl [1, 2, 3, 0] rfl)
        exact loop_62_1 _ 0 s_3 (by omega) (fun j hj => absurd hj (Nat.not_lt_zero _)) (fun _ _ => rfl) (Nat.lt_succ_self _) _ _ _ hP hD hS (lv_sub hl [2, 3, 1, 0] rfl)
      · refine lv_aload_n hx hb d_M_takesStep_67 rfl (lv_at hl 0 rfl) ?_
        refine q_get 0 1 i_M rfl hx hb hts hown hE hP rfl (by decide) x_937 rfl d_M_takesStep_68 ?_
        refine lv_bipush (v := 8) hx hb d_M_takesStep_71 (by decide) ?_
        refine lv_bipush (v := 32) hx hb d_M_takesStep_73 (by decide) ?_
        refine lv_iload_n hx hb d_M_takesStep_75 rfl (lv_at hl 2 rfl) ?_
        refine q_imul (v := 0) hx hb d_M_takesStep_76 (by decide) ?_
        refine q_iadd (v := 8) hx hb d_M_takesStep_77 (by decide) ?_
        refine lv_iload_n hx hb d_M_takesStep_78 rfl (lv_at hl 3 rfl) ?_
        refine q_iadd (v := nI (8 + c90)) hx hb d_M_takesStep_79 (nI_add 8 c90) ?_
        refine lv_aload_n hx hb d_M_takesStep_80 rfl (lv_at hl 0 rfl) ?_
        refine q_get 0 5 i_M rfl hx hb hts hown hE hP rfl (by decide) x_941 rfl d_M_takesStep_81 ?_
        refine lv_bipush (v := 32) hx hb d_M_takesStep_84 (by decide) ?_
        refine lv_iload_n hx hb d_M_takesStep_86 rfl (lv_at hl 2 rfl) ?_
        refine q_imul (v := 0) hx hb d_M_takesStep_87 (by decide) ?_
        refine lv_iload_n hx hb d_M_takesStep_88 rfl (lv_at hl 3 rfl) ?_
        refine q_iadd (v := nI c90) hx hb d_M_takesStep_89 ((nI_add _ _).trans (congrArg nI (Nat.zero_add _))) ?_
        refine q_lald (k := c90) 3 hx hb hE hP rfl rfl (by omega) (by decide) d_M_takesStep_90 ?_
        obtain ⟨s_13, es_13⟩ : ∃ g9 : Nat → Int64, g9 = vp_updL T0 (8 + c90) (R c90) := ⟨_, rfl⟩
        refine q_last (k := 8 + c90) 1 (ws1 := [((am 0), .inr (8, [.int th, .ref (am 1), .ref (am 2), .ref (am 3), .ref (am 4), .ref (am 5), .long bu, .long he, .ref (am 6), .ref (am 7)])), ((am 1), .inl (ct 1, 334, .inr (.inl s_13))), ((am 4), .inl (ct 1, 132, .inr (.inl G))), ((am 5), .inl (ct 1, 128, .inr (.inl R)))]) es_13 hx hb hE hP hD hS rfl rfl (by omega) (by decide) rfl d_M_takesStep_91 (fun H locs hP hD hS => ?_)
        refine lv_iinc (v := (nI (c90 + 1))) (lv' := [(3, .int (nI (c90 + 1))), (0, .ref (am 0)), (1, .int (nI n)), (2, .int 0)]) hx hb d_M_takesStep_92 hl (k := 3) rfl (nI_1 _) (by decide) rfl (fun ls hl => ?_)
        refine lv_goto (tgt := 62) hx hb d_M_takesStep_95 (by decide) ?_
        exact ih_62_0 (c90 + 1) s_13 (by omega) (fun j hj => by
                                rcases Nat.lt_succ_iff_lt_or_eq.mp hj with q | rfl
                                · simp (disch := omega) only [es_13, pk_uLn]; exact hA0 j q
                                · simp only [es_13, pk_uLs]) (fun j hj => by simp (disch := omega) only [es_13, pk_uLn]; exact hB0 j (by omega)) (by omega) _ _ _ hP hD hS (lv_sub hl [1, 2, 3, 0] rfl)
  exact loop_62_0 _ 0 s_2 (by omega) (fun j hj => absurd hj (Nat.not_lt_zero _)) (fun _ _ => rfl) (Nat.lt_succ_self _) _ _ _ hP hD hS (lv_sub hl [3, 2, 1, 0] rfl)
