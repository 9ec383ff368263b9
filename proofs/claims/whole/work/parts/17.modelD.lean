/-- the row of the reference -/
def fS (S Bf : Nat → Int64) : RF := fun a j => if a = 0 then (S (211 + j)).toInt else if a = 1 then (S (219 + j)).toInt else if a = 2 then (S (227 + j)).toInt else if a = 3 then (S (235 + j)).toInt else (Bf j).toInt
def oth (S1 S : Nat → Int64) : Prop := ∀ j, (j < 210 ∨ 243 ≤ j) → S1 j = S j
theorem oth.trans {S2 S1 S : Nat → Int64} (h : oth S2 S1) (k : oth S1 S) : oth S2 S := fun j hj => (h j hj).trans (k j hj)
theorem a5 {a : Nat} (h : a < 5) : a = 0 ∨ a = 1 ∨ a = 2 ∨ a = 3 ∨ a = 4 := by omega
def r_at (F : RF) (pl : Int) : Nat → Nat
  | 0 => 0
  | i + 1 => if F 1 i ≤ pl then i + 1 else r_at F pl i
theorem r_at_le (F : RF) (pl : Int) : ∀ i, r_at F pl i ≤ i
  | 0 => Nat.le_refl _
  | i + 1 => by
    have := r_at_le F pl i
    unfold r_at
    split <;> omega
theorem op_step {F G G1 : RF} {k cnt : Nat} (h0 : 0 < k) (hk : k ≤ cnt) (hc : cnt < 8) (hG : ∀ a j, a < 5 → j < 8 → G a j = if k < j ∧ j ≤ cnt then F a (j - 1) else F a j) (h1 : ∀ a j, a < 5 → j < 8 → G1 a j = if j = k then G a (k - 1) else G a j) : ∀ a j, a < 5 → j < 8 → G1 a j = if k - 1 < j ∧ j ≤ cnt then F a (j - 1) else F a j := by
  intro a j ha hj
  rw [h1 a j ha hj]
  by_cases q : j = k
  · rw [if_pos q, hG a (k - 1) ha (by omega), if_neg (by omega), if_pos (by omega), q]
  · rw [if_neg q, hG a j ha hj]
    by_cases q2 : k < j ∧ j ≤ cnt
    · rw [if_pos q2, if_pos (by omega)]
    · rw [if_neg q2, if_neg (by omega)]
theorem rm_step {F G G1 : RF} {k at9 : Nat} (hk : at9 ≤ k) (hc : k + 1 < 8) (hG : ∀ a j, a < 5 → j < 8 → G a j = if at9 ≤ j ∧ j < k then F a (j + 1) else F a j) (h1 : ∀ a j, a < 5 → j < 8 → G1 a j = if j = k then G a (k + 1) else G a j) : ∀ a j, a < 5 → j < 8 → G1 a j = if at9 ≤ j ∧ j < k + 1 then F a (j + 1) else F a j := by
  intro a j ha hj
  rw [h1 a j ha hj]
  by_cases q : j = k
  · rw [if_pos q, hG a (k + 1) ha (by omega), if_neg (by omega), if_pos (by omega), q]
  · rw [if_neg q, hG a j ha hj]
    by_cases q2 : at9 ≤ j ∧ j < k
    · rw [if_pos q2, if_pos (by omega)]
    · rw [if_neg q2, if_neg (by omega)]
theorem rm_end {F G : RF} {k at9 cnt : Nat} (hk : cnt ≤ k + 1) (hc : cnt ≤ 8) (hG : ∀ a j, a < 5 → j < 8 → G a j = if at9 ≤ j ∧ j < k then F a (j + 1) else F a j) : ∀ a j, a < 5 → j < cnt - 1 → G a j = r_rem F at9 a j := by
  intro a j ha hj
  rw [hG a j ha (by omega)]
  unfold r_rem
  by_cases q : j < at9
  · rw [if_neg (by omega), if_pos q]
  · rw [if_pos (by omega), if_neg q]
/-- the count is no cell of the row -/
theorem fS_cnt {S S1 Bf : Nat → Int64} {x : Int64} (h : S1 = vp_updL S 210 x) : fS S1 Bf = fS S Bf := by
  funext a j
  have e : ∀ k, k ≠ 210 → S1 k = S k := fun k hk => by rw [h]; exact pk_uLn hk
  unfold fS
  rw [e (211 + j) (by omega), e (219 + j) (by omega), e (227 + j) (by omega), e (235 + j) (by omega)]
theorem oth_cnt {S S1 : Nat → Int64} {x : Int64} (h : S1 = vp_updL S 210 x) : oth S1 S := fun j hj => by rw [h]; exact pk_uLn (by omega)
theorem r_new_fS {S Bf : Nat → Int64} {k a : Nat} (ha : a < 5) : r_new (S (211 + k)).toInt (S (219 + k)).toInt (S (227 + k)).toInt (S (235 + k)).toInt a = (if a = 4 then fS S Bf 1 k else fS S Bf a k) := by
  rcases a5 ha with rfl | rfl | rfl | rfl | rfl <;> simp [r_new, fS]

set_option maxHeartbeats 4000000 in
set_option maxRecDepth 100000 in
theorem c_M_copies (l : Launch) (D : va_G) (ct : Nat → ClassId) (st : Nat → Nat) (am : Nat → Nat) (th : Int32) (bu : Int64) (he : Int64) (S : Nat → Int64) (Bf : Nat → Int64) (fr : Nat) (to9 : Nat) (h1 : fr < 8) (h2 : to9 < 8) (sz : Nat) : Met l y_M_copies (wsy y_M_copies b_M_copies 3 (none)) (rmW 0 0 0 0) (PcW D ct st [.ref (am 0), .int (nI fr), .int (nI to9)] [((am 0), .inr (8, [.int th, .ref (am 1), .ref (am 2), .ref (am 3), .ref (am 4), .ref (am 5), .long bu, .long he, .ref (am 6), .ref (am 7)])), ((am 1), .inl (ct 1, 334, .inr (.inl S))), ((am 6), .inl (ct 1, 9, .inr (.inl Bf)))] sz) (QcW D [((am 0), .inr (8, [.int th, .ref (am 1), .ref (am 2), .ref (am 3), .ref (am 4), .ref (am 5), .long bu, .long he, .ref (am 6), .ref (am 7)])), ((am 1), .inl (ct 1, 334, .inr (.inl S))), ((am 6), .inl (ct 1, 9, .inr (.inl Bf)))] sz (fun v W1 => ∃ (s1 : Nat → Int64) (before1 : Nat → Int64), v = none ∧ W1 = [((am 0), .inr (8, [.int th, .ref (am 1), .ref (am 2), .ref (am 3), .ref (am 4), .ref (am 5), .long bu, .long he, .ref (am 6), .ref (am 7)])), ((am 1), .inl (ct 1, 334, .inr (.inl s1))), ((am 6), .inl (ct 1, 9, .inr (.inl before1)))] ∧ ((∀ a j, a < 5 → j < 8 → fS s1 before1 a j = if j = to9 then fS S Bf a fr else fS S Bf a j) ∧ s1 210 = S 210 ∧ oth s1 S))) 0 0 (va_A [((am 0), .inr (8, [.int th, .ref (am 1), .ref (am 2), .ref (am 3), .ref (am 4), .ref (am 5), .long bu, .long he, .ref (am 6), .ref (am 7)])), ((am 1), .inl (ct 1, 334, .inr (.inl S))), ((am 6), .inl (ct 1, 9, .inr (.inl Bf)))] sz) := by
  refine enterW (by decide) (Nat.le_of_ble_eq_true rfl) ?_
  intro p e s m args below meth c ls A hx hb hr hml hown hts hlk hin hsz hAe hP hD hA hE hV hS hl
  have hl : lv_has ls 3 [(0, .ref (am 0)), (1, .int (nI fr)), (2, .int (nI to9))] := hl
  refine lv_aload_n hx hb d_M_copies_0 rfl (lv_at hl 0 rfl) ?_
  refine q_get 0 1 i_M rfl hx hb hts hown hE hP rfl (by decide) x_937 rfl d_M_copies_1 ?_
  refine lv_sipush (v := 211) hx hb d_M_copies_4 (by decide) ?_
  refine lv_iload_n hx hb d_M_copies_7 rfl (lv_at hl 2 rfl) ?_
  refine q_iadd (v := nI (211 + to9)) hx hb d_M_copies_8 (nI_add 211 to9) ?_
  refine lv_aload_n hx hb d_M_copies_9 rfl (lv_at hl 0 rfl) ?_
  refine q_get 0 1 i_M rfl hx hb hts hown hE hP rfl (by decide) x_937 rfl d_M_copies_10 ?_
  refine lv_sipush (v := 211) hx hb d_M_copies_13 (by decide) ?_
  refine lv_iload_n hx hb d_M_copies_16 rfl (lv_at hl 1 rfl) ?_
  refine q_iadd (v := nI (211 + fr)) hx hb d_M_copies_17 (nI_add 211 fr) ?_
  refine q_lald (k := 211 + fr) 1 hx hb hE hP rfl rfl (by omega) (by decide) d_M_copies_18 ?_
  refine q_topl (v := S (211 + fr)) (rfl) ?_
  obtain ⟨s_1, es_1⟩ : ∃ g9 : Nat → Int64, g9 = vp_updL S (211 + to9) (S (211 + fr)) := ⟨_, rfl⟩
  refine q_last (k := 211 + to9) 1 (ws1 := [((am 0), .inr (8, [.int th, .ref (am 1), .ref (am 2), .ref (am 3), .ref (am 4), .ref (am 5), .long bu, .long he, .ref (am 6), .ref (am 7)])), ((am 1), .inl (ct 1, 334, .inr (.inl s_1))), ((am 6), .inl (ct 1, 9, .inr (.inl Bf)))]) es_1 hx hb hE hP hD hS rfl rfl (by omega) (by decide) rfl d_M_copies_19 (fun H locs hP hD hS => ?_)
  refine lv_aload_n hx hb d_M_copies_20 rfl (lv_at hl 0 rfl) ?_
  refine q_get 0 1 i_M rfl hx hb hts hown hE hP rfl (by decide) x_937 rfl d_M_copies_21 ?_
  refine lv_sipush (v := 219) hx hb d_M_copies_24 (by decide) ?_
  refine lv_iload_n hx hb d_M_copies_27 rfl (lv_at hl 2 rfl) ?_
  refine q_iadd (v := nI (219 + to9)) hx hb d_M_copies_28 (nI_add 219 to9) ?_
  refine lv_aload_n hx hb d_M_copies_29 rfl (lv_at hl 0 rfl) ?_
  refine q_get 0 1 i_M rfl hx hb hts hown hE hP rfl (by decide) x_937 rfl d_M_copies_30 ?_
  refine lv_sipush (v := 219) hx hb d_M_copies_33 (by decide) ?_
  refine lv_iload_n hx hb d_M_copies_36 rfl (lv_at hl 1 rfl) ?_
  refine q_iadd (v := nI (219 + fr)) hx hb d_M_copies_37 (nI_add 219 fr) ?_
  refine q_lald (k := 219 + fr) 1 hx hb hE hP rfl rfl (by omega) (by decide) d_M_copies_38 ?_
  refine q_topl (v := S (219 + fr)) (by simp (disch := omega) only [es_1, pk_uLn, pk_uLs, pk_us, pk_un]) ?_
  obtain ⟨s_2, es_2⟩ : ∃ g9 : Nat → Int64, g9 = vp_updL s_1 (219 + to9) (S (219 + fr)) := ⟨_, rfl⟩
  refine q_last (k := 219 + to9) 1 (ws1 := [((am 0), .inr (8, [.int th, .ref (am 1), .ref (am 2), .ref (am 3), .ref (am 4), .ref (am 5), .long bu, .long he, .ref (am 6), .ref (am 7)])), ((am 1), .inl (ct 1, 334, .inr (.inl s_2))), ((am 6), .inl (ct 1, 9, .inr (.inl Bf)))]) es_2 hx hb hE hP hD hS rfl rfl (by omega) (by decide) rfl d_M_copies_39 (fun H locs hP hD hS => ?_)
  refine lv_aload_n hx hb d_M_copies_40 rfl (lv_at hl 0 rfl) ?_
  refine q_get 0 1 i_M rfl hx hb hts hown hE hP rfl (by decide) x_937 rfl d_M_copies_41 ?_
  refine lv_sipush (v := 227) hx hb d_M_copies_44 (by decide) ?_
  refine lv_iload_n hx hb d_M_copies_47 rfl (lv_at hl 2 rfl) ?_
  refine q_iadd (v := nI (227 + to9)) hx hb d_M_copies_48 (nI_add 227 to9) ?_
  refine lv_aload_n hx hb d_M_copies_49 rfl (lv_at hl 0 rfl) ?_
  refine q_get 0 1 i_M rfl hx hb hts hown hE hP rfl (by decide) x_937 rfl d_M_copies_50 ?_
  refine lv_sipush (v := 227) hx hb d_M_copies_53 (by decide) ?_
  refine lv_iload_n hx hb d_M_copies_56 rfl (lv_at hl 1 rfl) ?_
  refine q_iadd (v := nI (227 + fr)) hx hb d_M_copies_57 (nI_add 227 fr) ?_
  refine q_lald (k := 227 + fr) 1 hx hb hE hP rfl rfl (by omega) (by decide) d_M_copies_58 ?_
  refine q_topl (v := S (227 + fr)) (by simp (disch := omega) only [es_2, es_1, pk_uLn, pk_uLs, pk_us, pk_un]) ?_
  obtain ⟨s_3, es_3⟩ : ∃ g9 : Nat → Int64, g9 = vp_updL s_2 (227 + to9) (S (227 + fr)) := ⟨_, rfl⟩
  refine q_last (k := 227 + to9) 1 (ws1 := [((am 0), .inr (8, [.int th, .ref (am 1), .ref (am 2), .ref (am 3), .ref (am 4), .ref (am 5), .long bu, .long he, .ref (am 6), .ref (am 7)])), ((am 1), .inl (ct 1, 334, .inr (.inl s_3))), ((am 6), .inl (ct 1, 9, .inr (.inl Bf)))]) es_3 hx hb hE hP hD hS rfl rfl (by omega) (by decide) rfl d_M_copies_59 (fun H locs hP hD hS => ?_)
  refine lv_aload_n hx hb d_M_copies_60 rfl (lv_at hl 0 rfl) ?_
  refine q_get 0 1 i_M rfl hx hb hts hown hE hP rfl (by decide) x_937 rfl d_M_copies_61 ?_
  refine lv_sipush (v := 235) hx hb d_M_copies_64 (by decide) ?_
  refine lv_iload_n hx hb d_M_copies_67 rfl (lv_at hl 2 rfl) ?_
  refine q_iadd (v := nI (235 + to9)) hx hb d_M_copies_68 (nI_add 235 to9) ?_
  refine lv_aload_n hx hb d_M_copies_69 rfl (lv_at hl 0 rfl) ?_
  refine q_get 0 1 i_M rfl hx hb hts hown hE hP rfl (by decide) x_937 rfl d_M_copies_70 ?_
  refine lv_sipush (v := 235) hx hb d_M_copies_73 (by decide) ?_
  refine lv_iload_n hx hb d_M_copies_76 rfl (lv_at hl 1 rfl) ?_
  refine q_iadd (v := nI (235 + fr)) hx hb d_M_copies_77 (nI_add 235 fr) ?_
  refine q_lald (k := 235 + fr) 1 hx hb hE hP rfl rfl (by omega) (by decide) d_M_copies_78 ?_
  refine q_topl (v := S (235 + fr)) (by simp (disch := omega) only [es_3, es_2, es_1, pk_uLn, pk_uLs, pk_us, pk_un]) ?_
  obtain ⟨s_4, es_4⟩ : ∃ g9 : Nat → Int64, g9 = vp_updL s_3 (235 + to9) (S (235 + fr)) := ⟨_, rfl⟩
  refine q_last (k := 235 + to9) 1 (ws1 := [((am 0), .inr (8, [.int th, .ref (am 1), .ref (am 2), .ref (am 3), .ref (am 4), .ref (am 5), .long bu, .long he, .ref (am 6), .ref (am 7)])), ((am 1), .inl (ct 1, 334, .inr (.inl s_4))), ((am 6), .inl (ct 1, 9, .inr (.inl Bf)))]) es_4 hx hb hE hP hD hS rfl rfl (by omega) (by decide) rfl d_M_copies_79 (fun H locs hP hD hS => ?_)
  refine lv_aload_n hx hb d_M_copies_80 rfl (lv_at hl 0 rfl) ?_
  refine q_get 0 8 i_M rfl hx hb hts hown hE hP rfl (by decide) x_944 rfl d_M_copies_81 ?_
  refine lv_iload_n hx hb d_M_copies_84 rfl (lv_at hl 2 rfl) ?_
  refine lv_aload_n hx hb d_M_copies_85 rfl (lv_at hl 0 rfl) ?_
  refine q_get 0 8 i_M rfl hx hb hts hown hE hP rfl (by decide) x_944 rfl d_M_copies_86 ?_
  refine lv_iload_n hx hb d_M_copies_89 rfl (lv_at hl 1 rfl) ?_
  refine q_lald (k := fr) 2 hx hb hE hP rfl rfl (by omega) (by decide) d_M_copies_90 ?_
  obtain ⟨before_1, ebefore_1⟩ : ∃ g9 : Nat → Int64, g9 = vp_updL Bf to9 (Bf fr) := ⟨_, rfl⟩
  refine q_last (k := to9) 2 (ws1 := [((am 0), .inr (8, [.int th, .ref (am 1), .ref (am 2), .ref (am 3), .ref (am 4), .ref (am 5), .long bu, .long he, .ref (am 6), .ref (am 7)])), ((am 1), .inl (ct 1, 334, .inr (.inl s_4))), ((am 6), .inl (ct 1, 9, .inr (.inl before_1)))]) ebefore_1 hx hb hE hP hD hS rfl rfl (by omega) (by decide) rfl d_M_copies_91 (fun H locs hP hD hS => ?_)
  exact rW_v hx hb hr hlk hAe hS hP hD (Nat.le_of_ble_eq_true rfl) (Nat.le_of_ble_eq_true rfl) d_M_copies_92 ⟨s_4, before_1, rfl, rfl, ⟨fun a j ha hj => by
            rcases a5 ha with rfl | rfl | rfl | rfl | rfl
            · show (s_4 (211 + j)).toInt = if j = to9 then (S (211 + fr)).toInt else (S (211 + j)).toInt
              by_cases q9 : j = to9
              · rw [if_pos q9, q9]; simp (disch := omega) only [ebefore_1, es_4, es_3, es_2, es_1, pk_uLn, pk_uLs, pk_us, pk_un]
              · rw [if_neg q9]; simp (disch := omega) only [ebefore_1, es_4, es_3, es_2, es_1, pk_uLn, pk_uLs, pk_us, pk_un]
            · show (s_4 (219 + j)).toInt = if j = to9 then (S (219 + fr)).toInt else (S (219 + j)).toInt
              by_cases q9 : j = to9
              · rw [if_pos q9, q9]; simp (disch := omega) only [ebefore_1, es_4, es_3, es_2, es_1, pk_uLn, pk_uLs, pk_us, pk_un]
              · rw [if_neg q9]; simp (disch := omega) only [ebefore_1, es_4, es_3, es_2, es_1, pk_uLn, pk_uLs, pk_us, pk_un]
            · show (s_4 (227 + j)).toInt = if j = to9 then (S (227 + fr)).toInt else (S (227 + j)).toInt
              by_cases q9 : j = to9
              · rw [if_pos q9, q9]; simp (disch := omega) only [ebefore_1, es_4, es_3, es_2, es_1, pk_uLn, pk_uLs, pk_us, pk_un]
              · rw [if_neg q9]; simp (disch := omega) only [ebefore_1, es_4, es_3, es_2, es_1, pk_uLn, pk_uLs, pk_us, pk_un]
            · show (s_4 (235 + j)).toInt = if j = to9 then (S (235 + fr)).toInt else (S (235 + j)).toInt
              by_cases q9 : j = to9
              · rw [if_pos q9, q9]; simp (disch := omega) only [ebefore_1, es_4, es_3, es_2, es_1, pk_uLn, pk_uLs, pk_us, pk_un]
              · rw [if_neg q9]; simp (disch := omega) only [ebefore_1, es_4, es_3, es_2, es_1, pk_uLn, pk_uLs, pk_us, pk_un]
            · show (before_1 j).toInt = if j = to9 then (Bf fr).toInt else (Bf j).toInt
              by_cases q9 : j = to9
              · rw [if_pos q9, q9]; simp (disch := omega) only [ebefore_1, es_4, es_3, es_2, es_1, pk_uLn, pk_uLs, pk_us, pk_un]
              · rw [if_neg q9]; simp (disch := omega) only [ebefore_1, es_4, es_3, es_2, es_1, pk_uLn, pk_uLs, pk_us, pk_un], by simp (disch := omega) only [ebefore_1, es_4, es_3, es_2, es_1, pk_uLn, pk_uLs, pk_us, pk_un], fun j hj => by simp (disch := omega) only [ebefore_1, es_4, es_3, es_2, es_1, pk_uLn, pk_uLs, pk_us, pk_un]⟩⟩
set_option maxHeartbeats 4000000 in
set_option maxRecDepth 100000 in
theorem c_M_sets (l : Launch) (D : va_G) (ct : Nat → ClassId) (st : Nat → Nat) (am : Nat → Nat) (th : Int32) (bu : Int64) (he : Int64) (S : Nat → Int64) (Bf : Nat → Int64) (at9 : Nat) (kd : Int64) (pl : Int64) (sp : Int64) (tg : Int64) (h1 : at9 < 8) (sz : Nat) : Met l y_M_sets (wsy y_M_sets b_M_sets 10 (none)) (rmW 0 0 0 0) (PcW D ct st [.ref (am 0), .int (nI at9), .long kd, .long pl, .long sp, .long tg] [((am 0), .inr (8, [.int th, .ref (am 1), .ref (am 2), .ref (am 3), .ref (am 4), .ref (am 5), .long bu, .long he, .ref (am 6), .ref (am 7)])), ((am 1), .inl (ct 1, 334, .inr (.inl S))), ((am 6), .inl (ct 1, 9, .inr (.inl Bf)))] sz) (QcW D [((am 0), .inr (8, [.int th, .ref (am 1), .ref (am 2), .ref (am 3), .ref (am 4), .ref (am 5), .long bu, .long he, .ref (am 6), .ref (am 7)])), ((am 1), .inl (ct 1, 334, .inr (.inl S))), ((am 6), .inl (ct 1, 9, .inr (.inl Bf)))] sz (fun v W1 => ∃ (s1 : Nat → Int64) (before1 : Nat → Int64), v = none ∧ W1 = [((am 0), .inr (8, [.int th, .ref (am 1), .ref (am 2), .ref (am 3), .ref (am 4), .ref (am 5), .long bu, .long he, .ref (am 6), .ref (am 7)])), ((am 1), .inl (ct 1, 334, .inr (.inl s1))), ((am 6), .inl (ct 1, 9, .inr (.inl before1)))] ∧ ((∀ a j, a < 5 → j < 8 → fS s1 before1 a j = if j = at9 then r_new kd.toInt pl.toInt sp.toInt tg.toInt a else fS S Bf a j) ∧ s1 210 = S 210 ∧ oth s1 S))) 0 0 (va_A [((am 0), .inr (8, [.int th, .ref (am 1), .ref (am 2), .ref (am 3), .ref (am 4), .ref (am 5), .long bu, .long he, .ref (am 6), .ref (am 7)])), ((am 1), .inl (ct 1, 334, .inr (.inl S))), ((am 6), .inl (ct 1, 9, .inr (.inl Bf)))] sz) := by
  refine enterW (by decide) (Nat.le_of_ble_eq_true rfl) ?_
  intro p e s m args below meth c ls A hx hb hr hml hown hts hlk hin hsz hAe hP hD hA hE hV hS hl
  have hl : lv_has ls 10 [(0, .ref (am 0)), (1, .int (nI at9)), (2, .long kd), (4, .long pl), (6, .long sp), (8, .long tg)] := hl
  refine lv_aload_n hx hb d_M_sets_0 rfl (lv_at hl 0 rfl) ?_
  refine q_get 0 1 i_M rfl hx hb hts hown hE hP rfl (by decide) x_937 rfl d_M_sets_1 ?_
  refine lv_sipush (v := 211) hx hb d_M_sets_4 (by decide) ?_
  refine lv_iload_n hx hb d_M_sets_7 rfl (lv_at hl 1 rfl) ?_
  refine q_iadd (v := nI (211 + at9)) hx hb d_M_sets_8 (nI_add 211 at9) ?_
  refine lv_lload_n hx hb d_M_sets_9 rfl (lv_at hl 2 rfl) ?_
  obtain ⟨s_1, es_1⟩ : ∃ g9 : Nat → Int64, g9 = vp_updL S (211 + at9) kd := ⟨_, rfl⟩
  refine q_last (k := 211 + at9) 1 (ws1 := [((am 0), .inr (8, [.int th, .ref (am 1), .ref (am 2), .ref (am 3), .ref (am 4), .ref (am 5), .long bu, .long he, .ref (am 6), .ref (am 7)])), ((am 1), .inl (ct 1, 334, .inr (.inl s_1))), ((am 6), .inl (ct 1, 9, .inr (.inl Bf)))]) es_1 hx hb hE hP hD hS rfl rfl (by omega) (by decide) rfl d_M_sets_10 (fun H locs hP hD hS => ?_)
  refine lv_aload_n hx hb d_M_sets_11 rfl (lv_at hl 0 rfl) ?_
  refine q_get 0 1 i_M rfl hx hb hts hown hE hP rfl (by decide) x_937 rfl d_M_sets_12 ?_
  refine lv_sipush (v := 219) hx hb d_M_sets_15 (by decide) ?_
  refine lv_iload_n hx hb d_M_sets_18 rfl (lv_at hl 1 rfl) ?_
  refine q_iadd (v := nI (219 + at9)) hx hb d_M_sets_19 (nI_add 219 at9) ?_
  refine lv_lload hx hb d_M_sets_20 (lv_at hl 3 rfl) ?_
  obtain ⟨s_2, es_2⟩ : ∃ g9 : Nat → Int64, g9 = vp_updL s_1 (219 + at9) pl := ⟨_, rfl⟩
  refine q_last (k := 219 + at9) 1 (ws1 := [((am 0), .inr (8, [.int th, .ref (am 1), .ref (am 2), .ref (am 3), .ref (am 4), .ref (am 5), .long bu, .long he, .ref (am 6), .ref (am 7)])), ((am 1), .inl (ct 1, 334, .inr (.inl s_2))), ((am 6), .inl (ct 1, 9, .inr (.inl Bf)))]) es_2 hx hb hE hP hD hS rfl rfl (by omega) (by decide) rfl d_M_sets_22 (fun H locs hP hD hS => ?_)
  refine lv_aload_n hx hb d_M_sets_23 rfl (lv_at hl 0 rfl) ?_
  refine q_get 0 1 i_M rfl hx hb hts hown hE hP rfl (by decide) x_937 rfl d_M_sets_24 ?_
  refine lv_sipush (v := 227) hx hb d_M_sets_27 (by decide) ?_
  refine lv_iload_n hx hb d_M_sets_30 rfl (lv_at hl 1 rfl) ?_
  refine q_iadd (v := nI (227 + at9)) hx hb d_M_sets_31 (nI_add 227 at9) ?_
  refine lv_lload hx hb d_M_sets_32 (lv_at hl 4 rfl) ?_
  obtain ⟨s_3, es_3⟩ : ∃ g9 : Nat → Int64, g9 = vp_updL s_2 (227 + at9) sp := ⟨_, rfl⟩
  refine q_last (k := 227 + at9) 1 (ws1 := [((am 0), .inr (8, [.int th, .ref (am 1), .ref (am 2), .ref (am 3), .ref (am 4), .ref (am 5), .long bu, .long he, .ref (am 6), .ref (am 7)])), ((am 1), .inl (ct 1, 334, .inr (.inl s_3))), ((am 6), .inl (ct 1, 9, .inr (.inl Bf)))]) es_3 hx hb hE hP hD hS rfl rfl (by omega) (by decide) rfl d_M_sets_34 (fun H locs hP hD hS => ?_)
  refine lv_aload_n hx hb d_M_sets_35 rfl (lv_at hl 0 rfl) ?_
  refine q_get 0 1 i_M rfl hx hb hts hown hE hP rfl (by decide) x_937 rfl d_M_sets_36 ?_
  refine lv_sipush (v := 235) hx hb d_M_sets_39 (by decide) ?_
  refine lv_iload_n hx hb d_M_sets_42 rfl (lv_at hl 1 rfl) ?_
  refine q_iadd (v := nI (235 + at9)) hx hb d_M_sets_43 (nI_add 235 at9) ?_
  refine lv_lload hx hb d_M_sets_44 (lv_at hl 5 rfl) ?_
  obtain ⟨s_4, es_4⟩ : ∃ g9 : Nat → Int64, g9 = vp_updL s_3 (235 + at9) tg := ⟨_, rfl⟩
  refine q_last (k := 235 + at9) 1 (ws1 := [((am 0), .inr (8, [.int th, .ref (am 1), .ref (am 2), .ref (am 3), .ref (am 4), .ref (am 5), .long bu, .long he, .ref (am 6), .ref (am 7)])), ((am 1), .inl (ct 1, 334, .inr (.inl s_4))), ((am 6), .inl (ct 1, 9, .inr (.inl Bf)))]) es_4 hx hb hE hP hD hS rfl rfl (by omega) (by decide) rfl d_M_sets_46 (fun H locs hP hD hS => ?_)
  refine lv_aload_n hx hb d_M_sets_47 rfl (lv_at hl 0 rfl) ?_
  refine q_get 0 8 i_M rfl hx hb hts hown hE hP rfl (by decide) x_944 rfl d_M_sets_48 ?_
  refine lv_iload_n hx hb d_M_sets_51 rfl (lv_at hl 1 rfl) ?_
  refine lv_lload hx hb d_M_sets_52 (lv_at hl 3 rfl) ?_
  obtain ⟨before_1, ebefore_1⟩ : ∃ g9 : Nat → Int64, g9 = vp_updL Bf at9 pl := ⟨_, rfl⟩
  refine q_last (k := at9) 2 (ws1 := [((am 0), .inr (8, [.int th, .ref (am 1), .ref (am 2), .ref (am 3), .ref (am 4), .ref (am 5), .long bu, .long he, .ref (am 6), .ref (am 7)])), ((am 1), .inl (ct 1, 334, .inr (.inl s_4))), ((am 6), .inl (ct 1, 9, .inr (.inl before_1)))]) ebefore_1 hx hb hE hP hD hS rfl rfl (by omega) (by decide) rfl d_M_sets_54 (fun H locs hP hD hS => ?_)
  exact rW_v hx hb hr hlk hAe hS hP hD (Nat.le_of_ble_eq_true rfl) (Nat.le_of_ble_eq_true rfl) d_M_sets_55 ⟨s_4, before_1, rfl, rfl, ⟨fun a j ha hj => by
            rcases a5 ha with rfl | rfl | rfl | rfl | rfl
            · show (s_4 (211 + j)).toInt = if j = at9 then kd.toInt else (S (211 + j)).toInt
              by_cases q9 : j = at9
              · rw [if_pos q9, q9]; simp (disch := omega) only [ebefore_1, es_4, es_3, es_2, es_1, pk_uLn, pk_uLs, pk_us, pk_un]
              · rw [if_neg q9]; simp (disch := omega) only [ebefore_1, es_4, es_3, es_2, es_1, pk_uLn, pk_uLs, pk_us, pk_un]
            · show (s_4 (219 + j)).toInt = if j = at9 then pl.toInt else (S (219 + j)).toInt
              by_cases q9 : j = at9
              · rw [if_pos q9, q9]; simp (disch := omega) only [ebefore_1, es_4, es_3, es_2, es_1, pk_uLn, pk_uLs, pk_us, pk_un]
              · rw [if_neg q9]; simp (disch := omega) only [ebefore_1, es_4, es_3, es_2, es_1, pk_uLn, pk_uLs, pk_us, pk_un]
            · show (s_4 (227 + j)).toInt = if j = at9 then sp.toInt else (S (227 + j)).toInt
              by_cases q9 : j = at9
              · rw [if_pos q9, q9]; simp (disch := omega) only [ebefore_1, es_4, es_3, es_2, es_1, pk_uLn, pk_uLs, pk_us, pk_un]
              · rw [if_neg q9]; simp (disch := omega) only [ebefore_1, es_4, es_3, es_2, es_1, pk_uLn, pk_uLs, pk_us, pk_un]
            · show (s_4 (235 + j)).toInt = if j = at9 then tg.toInt else (S (235 + j)).toInt
              by_cases q9 : j = at9
              · rw [if_pos q9, q9]; simp (disch := omega) only [ebefore_1, es_4, es_3, es_2, es_1, pk_uLn, pk_uLs, pk_us, pk_un]
              · rw [if_neg q9]; simp (disch := omega) only [ebefore_1, es_4, es_3, es_2, es_1, pk_uLn, pk_uLs, pk_us, pk_un]
            · show (before_1 j).toInt = if j = at9 then pl.toInt else (Bf j).toInt
              by_cases q9 : j = at9
              · rw [if_pos q9, q9]; simp (disch := omega) only [ebefore_1, es_4, es_3, es_2, es_1, pk_uLn, pk_uLs, pk_us, pk_un]
              · rw [if_neg q9]; simp (disch := omega) only [ebefore_1, es_4, es_3, es_2, es_1, pk_uLn, pk_uLs, pk_us, pk_un], by simp (disch := omega) only [ebefore_1, es_4, es_3, es_2, es_1, pk_uLn, pk_uLs, pk_us, pk_un], fun j hj => by simp (disch := omega) only [ebefore_1, es_4, es_3, es_2, es_1, pk_uLn, pk_uLs, pk_us, pk_un]⟩⟩
set_option maxHeartbeats 4000000 in
set_option maxRecDepth 100000 in
theorem c_M_opens (l : Launch) (D : va_G) (ct : Nat → ClassId) (st : Nat → Nat) (am : Nat → Nat) (th : Int32) (bu : Int64) (he : Int64) (S : Nat → Int64) (Bf : Nat → Int64) (cnt : Nat) (at9 : Nat) (hcnt : S 210 = lN cnt) (hc7 : cnt < 8) (h1 : at9 ≤ cnt) (sz : Nat) : Met l y_M_opens (wsy y_M_opens b_M_opens 3 (none)) (rmW 1 0 0 22) (PcW D ct st [.ref (am 0), .int (nI at9)] [((am 0), .inr (8, [.int th, .ref (am 1), .ref (am 2), .ref (am 3), .ref (am 4), .ref (am 5), .long bu, .long he, .ref (am 6), .ref (am 7)])), ((am 1), .inl (ct 1, 334, .inr (.inl S))), ((am 6), .inl (ct 1, 9, .inr (.inl Bf)))] sz) (QcW D [((am 0), .inr (8, [.int th, .ref (am 1), .ref (am 2), .ref (am 3), .ref (am 4), .ref (am 5), .long bu, .long he, .ref (am 6), .ref (am 7)])), ((am 1), .inl (ct 1, 334, .inr (.inl S))), ((am 6), .inl (ct 1, 9, .inr (.inl Bf)))] sz (fun v W1 => ∃ (s1 : Nat → Int64) (before1 : Nat → Int64), v = none ∧ W1 = [((am 0), .inr (8, [.int th, .ref (am 1), .ref (am 2), .ref (am 3), .ref (am 4), .ref (am 5), .long bu, .long he, .ref (am 6), .ref (am 7)])), ((am 1), .inl (ct 1, 334, .inr (.inl s1))), ((am 6), .inl (ct 1, 9, .inr (.inl before1)))] ∧ ((∀ a j, a < 5 → j < 8 → fS s1 before1 a j = if at9 < j ∧ j ≤ cnt then fS S Bf a (j - 1) else fS S Bf a j) ∧ s1 210 = lN (cnt + 1) ∧ oth s1 S))) 0 0 (va_A [((am 0), .inr (8, [.int th, .ref (am 1), .ref (am 2), .ref (am 3), .ref (am 4), .ref (am 5), .long bu, .long he, .ref (am 6), .ref (am 7)])), ((am 1), .inl (ct 1, 334, .inr (.inl S))), ((am 6), .inl (ct 1, 9, .inr (.inl Bf)))] sz) := by
  refine enterW (by decide) (Nat.le_of_ble_eq_true rfl) ?_
  intro p e s m args below meth c ls A hx hb hr hml hown hts hlk hin hsz hAe hP hD hA hE hV hS hl
  have hl : lv_has ls 3 [(0, .ref (am 0)), (1, .int (nI at9))] := hl
  refine lv_aload_n hx hb d_M_opens_0 rfl (lv_at hl 0 rfl) ?_
  refine q_get 0 1 i_M rfl hx hb hts hown hE hP rfl (by decide) x_937 rfl d_M_opens_1 ?_
  refine lv_sipush (v := 210) hx hb d_M_opens_4 (by decide) ?_
  refine q_lald (k := 210) 1 hx hb hE hP rfl rfl (by omega) (by decide) d_M_opens_7 ?_
  refine q_topl (v := lN cnt) (hcnt) ?_
  refine lv_l2i (v := nI cnt) hx hb d_M_opens_8 (lN_i _) ?_
  refine lv_istore_n (lv' := [(2, .int (nI cnt)), (0, .ref (am 0)), (1, .int (nI at9))]) hx hb d_M_opens_9 rfl hl (by decide) rfl (fun ls hl => ?_)
  have loop_10 : ∀ (n9 : Nat) (k : Nat) (T : Nat → Int64) (B1 : Nat → Int64) (hk : at9 ≤ k ∧ k ≤ cnt) (hT : ∀ a j, a < 5 → j < 8 → fS T B1 a j = if k < j ∧ j ≤ cnt then fS S Bf a (j - 1) else fS S Bf a j) (hT2 : T 210 = S 210) (hT3 : oth T S) (hn9 : k < n9) (H : Heap) (locs : List Loc) (ls : Array Slot), va_P D classes [((am 0), .inr (8, [.int th, .ref (am 1), .ref (am 2), .ref (am 3), .ref (am 4), .ref (am 5), .long bu, .long he, .ref (am 6), .ref (am 7)])), ((am 1), .inl (ct 1, 334, .inr (.inl T))), ((am 6), .inl (ct 1, 9, .inr (.inl B1)))] H → va_D A [((am 0), .inr (8, [.int th, .ref (am 1), .ref (am 2), .ref (am 3), .ref (am 4), .ref (am 5), .long bu, .long he, .ref (am 6), .ref (am 7)])), ((am 1), .inl (ct 1, 334, .inr (.inl T))), ((am 6), .inl (ct 1, 9, .inr (.inl B1)))] → va_S A s.heap H locs → lv_has ls 3 [(0, .ref (am 0)), (1, .int (nI at9)), (2, .int (nI k))] → W p l e (rmW 1 0 0 22) s m args below meth c H locs (0) (0) (MQ below (QcW D [((am 0), .inr (8, [.int th, .ref (am 1), .ref (am 2), .ref (am 3), .ref (am 4), .ref (am 5), .long bu, .long he, .ref (am 6), .ref (am 7)])), ((am 1), .inl (ct 1, 334, .inr (.inl S))), ((am 6), .inl (ct 1, 9, .inr (.inl Bf)))] sz (fun v W1 => ∃ (s1 : Nat → Int64) (before1 : Nat → Int64), v = none ∧ W1 = [((am 0), .inr (8, [.int th, .ref (am 1), .ref (am 2), .ref (am 3), .ref (am 4), .ref (am 5), .long bu, .long he, .ref (am 6), .ref (am 7)])), ((am 1), .inl (ct 1, 334, .inr (.inl s1))), ((am 6), .inl (ct 1, 9, .inr (.inl before1)))] ∧ ((∀ a j, a < 5 → j < 8 → fS s1 before1 a j = if at9 < j ∧ j ≤ cnt then fS S Bf a (j - 1) else fS S Bf a j) ∧ s1 210 = lN (cnt + 1) ∧ oth s1 S))) args s 0 0 A) (F0 m 10 ls []) := by
    intro n9
    induction n9 with
    | zero => intro k T B1 hk hT hT2 hT3 hn9 H locs ls hP hD hS hl; exact absurd hn9 (Nat.not_lt_zero _)
    | succ n9 ih_10 =>
      intro k T B1 hk hT hT2 hT3 hn9 H locs ls hP hD hS hl
      refine lv_iload_n hx hb d_M_opens_10 rfl (lv_at hl 2 rfl) ?_
      refine lv_iload_n hx hb d_M_opens_11 rfl (lv_at hl 1 rfl) ?_
      refine q_icmp_le_n (a := k) (b := at9) (tgt := 29) hx hb d_M_opens_12 (by decide) rfl rfl (by omega) (by omega) (fun h_12 => ?_) (fun h_12 => ?_)
      · refine lv_aload_n hx hb d_M_opens_29 rfl (lv_at hl 0 rfl) ?_
        refine q_get 0 1 i_M rfl hx hb hts hown hE hP rfl (by decide) x_937 rfl d_M_opens_30 ?_
        refine lv_sipush (v := 210) hx hb d_M_opens_33 (by decide) ?_
        refine lv_dup2_11 hx hb d_M_opens_36 rfl rfl ?_
        refine q_lald (k := 210) 1 hx hb hE hP rfl rfl (by omega) (by decide) d_M_opens_37 ?_
        refine lv_lconst (v := 1) hx hb d_M_opens_38 (by decide) ?_
        refine lv_ladd hx hb d_M_opens_39 ?_
        obtain ⟨s_1, es_1⟩ : ∃ g9 : Nat → Int64, g9 = vp_updL T 210 ((T 210) + 1) := ⟨_, rfl⟩
        refine q_last (k := 210) 1 (ws1 := [((am 0), .inr (8, [.int th, .ref (am 1), .ref (am 2), .ref (am 3), .ref (am 4), .ref (am 5), .long bu, .long he, .ref (am 6), .ref (am 7)])), ((am 1), .inl (ct 1, 334, .inr (.inl s_1))), ((am 6), .inl (ct 1, 9, .inr (.inl B1)))]) es_1 hx hb hE hP hD hS rfl rfl (by omega) (by decide) rfl d_M_opens_40 (fun H locs hP hD hS => ?_)
        exact rW_v hx hb hr hlk hAe hS hP hD (Nat.le_of_ble_eq_true rfl) (Nat.le_of_ble_eq_true rfl) d_M_opens_41 ⟨s_1, B1, rfl, rfl, ⟨fun a j ha hj => by rw [fS_cnt es_1, hT a j ha hj, show k = at9 by omega], by rw [es_1, pk_uLs, hT2, hcnt]; exact lN_1 _, (oth_cnt es_1).trans hT3⟩⟩
      · refine lv_aload_n hx hb d_M_opens_15 rfl (lv_at hl 0 rfl) ?_
        refine lv_iload_n hx hb d_M_opens_16 rfl (lv_at hl 2 rfl) ?_
        refine lv_iconst (v := 1) hx hb d_M_opens_17 (by decide) ?_
        refine q_isub (v := nI (k - 1)) hx hb d_M_opens_18 (pk_sub (a := k) (b := 1) (by omega)) ?_
        refine lv_iload_n hx hb d_M_opens_19 rfl (lv_at hl 2 rfl) ?_
        refine cWV (As := [.int (nI (k - 1)), .int (nI k)]) (rest := []) (q9 := 0) (ci := 8) K_M_copies x_1129 hx hb hml hown hts hE hV hS (c_M_copies l D ct st am th bu he T B1 (k - 1) k (by omega) (by omega) _) hP hD hA [0, 1, 2] [] (wr := []) rfl rfl (by decide) (by decide) (by decide) rfl hP rfl rfl hl.1 rfl (Nat.le_of_ble_eq_true rfl) d_M_opens_20 (Nat.le_of_ble_eq_true rfl) (Nat.le_of_ble_eq_true rfl) ⟨Nat.le_of_ble_eq_true rfl, Nat.le_of_ble_eq_true rfl⟩ (fun v W1 H locs hpost hP hD hS => ?_)
        obtain ⟨s1_1, before1_1, rfl, rfl, hq_20⟩ := hpost
        have hP : va_P D classes [((am 0), .inr (8, [.int th, .ref (am 1), .ref (am 2), .ref (am 3), .ref (am 4), .ref (am 5), .long bu, .long he, .ref (am 6), .ref (am 7)])), ((am 1), .inl (ct 1, 334, .inr (.inl s1_1))), ((am 6), .inl (ct 1, 9, .inr (.inl before1_1)))] H := hP
        have hD : va_D A [((am 0), .inr (8, [.int th, .ref (am 1), .ref (am 2), .ref (am 3), .ref (am 4), .ref (am 5), .long bu, .long he, .ref (am 6), .ref (am 7)])), ((am 1), .inl (ct 1, 334, .inr (.inl s1_1))), ((am 6), .inl (ct 1, 9, .inr (.inl before1_1)))] := hD
        refine lv_iinc (v := (nI (k - 1))) (lv' := [(2, .int (nI (k - 1))), (0, .ref (am 0)), (1, .int (nI at9))]) hx hb d_M_opens_23 hl (k := 2) rfl (by rw [show k = (k - 1) + 1 by omega]; exact pk_m1 _) (by decide) rfl (fun ls hl => ?_)
        refine lv_goto (tgt := 10) hx hb d_M_opens_26 (by decide) ?_
        exact ih_10 (k - 1) s1_1 before1_1 (by omega) (op_step (by omega) (by omega) hc7 hT hq_20.1) (hq_20.2.1.trans hT2) (hq_20.2.2.trans hT3) (by omega) _ _ _ hP hD hS (lv_sub hl [1, 2, 0] rfl)
  exact loop_10 _ cnt S Bf (by omega) (fun a j ha hj => (if_neg (by omega)).symm) (rfl) (fun _ _ => rfl) (Nat.lt_succ_self _) _ _ _ hP hD hS (lv_sub hl [1, 2, 0] rfl)
set_option maxHeartbeats 4000000 in
set_option maxRecDepth 100000 in
theorem c_M_removes (l : Launch) (D : va_G) (ct : Nat → ClassId) (st : Nat → Nat) (am : Nat → Nat) (th : Int32) (bu : Int64) (he : Int64) (S : Nat → Int64) (Bf : Nat → Int64) (cnt : Nat) (at9 : Nat) (hcnt : S 210 = lN cnt) (hc8 : cnt ≤ 8) (h1 : at9 < cnt) (sz : Nat) : Met l y_M_removes (wsy y_M_removes b_M_removes 3 (none)) (rmW 1 0 0 22) (PcW D ct st [.ref (am 0), .int (nI at9)] [((am 0), .inr (8, [.int th, .ref (am 1), .ref (am 2), .ref (am 3), .ref (am 4), .ref (am 5), .long bu, .long he, .ref (am 6), .ref (am 7)])), ((am 1), .inl (ct 1, 334, .inr (.inl S))), ((am 6), .inl (ct 1, 9, .inr (.inl Bf)))] sz) (QcW D [((am 0), .inr (8, [.int th, .ref (am 1), .ref (am 2), .ref (am 3), .ref (am 4), .ref (am 5), .long bu, .long he, .ref (am 6), .ref (am 7)])), ((am 1), .inl (ct 1, 334, .inr (.inl S))), ((am 6), .inl (ct 1, 9, .inr (.inl Bf)))] sz (fun v W1 => ∃ (s1 : Nat → Int64) (before1 : Nat → Int64), v = none ∧ W1 = [((am 0), .inr (8, [.int th, .ref (am 1), .ref (am 2), .ref (am 3), .ref (am 4), .ref (am 5), .long bu, .long he, .ref (am 6), .ref (am 7)])), ((am 1), .inl (ct 1, 334, .inr (.inl s1))), ((am 6), .inl (ct 1, 9, .inr (.inl before1)))] ∧ ((∀ a j, a < 5 → j < cnt - 1 → fS s1 before1 a j = r_rem (fS S Bf) at9 a j) ∧ s1 210 = lN (cnt - 1) ∧ oth s1 S))) 0 0 (va_A [((am 0), .inr (8, [.int th, .ref (am 1), .ref (am 2), .ref (am 3), .ref (am 4), .ref (am 5), .long bu, .long he, .ref (am 6), .ref (am 7)])), ((am 1), .inl (ct 1, 334, .inr (.inl S))), ((am 6), .inl (ct 1, 9, .inr (.inl Bf)))] sz) := by
  refine enterW (by decide) (Nat.le_of_ble_eq_true rfl) ?_
  intro p e s m args below meth c ls A hx hb hr hml hown hts hlk hin hsz hAe hP hD hA hE hV hS hl
  have hl : lv_has ls 3 [(0, .ref (am 0)), (1, .int (nI at9))] := hl
  refine lv_iload_n hx hb d_M_removes_0 rfl (lv_at hl 1 rfl) ?_
  refine lv_istore_n (lv' := [(2, .int (nI at9)), (0, .ref (am 0)), (1, .int (nI at9))]) hx hb d_M_removes_1 rfl hl (by decide) rfl (fun ls hl => ?_)
  have loop_2 : ∀ (n9 : Nat) (k : Nat) (T : Nat → Int64) (B1 : Nat → Int64) (hk : at9 ≤ k ∧ k < cnt) (hT : ∀ a j, a < 5 → j < 8 → fS T B1 a j = if at9 ≤ j ∧ j < k then fS S Bf a (j + 1) else fS S Bf a j) (hT2 : T 210 = S 210) (hT3 : oth T S) (hn9 : cnt - k < n9) (H : Heap) (locs : List Loc) (ls : Array Slot), va_P D classes [((am 0), .inr (8, [.int th, .ref (am 1), .ref (am 2), .ref (am 3), .ref (am 4), .ref (am 5), .long bu, .long he, .ref (am 6), .ref (am 7)])), ((am 1), .inl (ct 1, 334, .inr (.inl T))), ((am 6), .inl (ct 1, 9, .inr (.inl B1)))] H → va_D A [((am 0), .inr (8, [.int th, .ref (am 1), .ref (am 2), .ref (am 3), .ref (am 4), .ref (am 5), .long bu, .long he, .ref (am 6), .ref (am 7)])), ((am 1), .inl (ct 1, 334, .inr (.inl T))), ((am 6), .inl (ct 1, 9, .inr (.inl B1)))] → va_S A s.heap H locs → lv_has ls 3 [(0, .ref (am 0)), (1, .int (nI at9)), (2, .int (nI k))] → W p l e (rmW 1 0 0 22) s m args below meth c H locs (0) (0) (MQ below (QcW D [((am 0), .inr (8, [.int th, .ref (am 1), .ref (am 2), .ref (am 3), .ref (am 4), .ref (am 5), .long bu, .long he, .ref (am 6), .ref (am 7)])), ((am 1), .inl (ct 1, 334, .inr (.inl S))), ((am 6), .inl (ct 1, 9, .inr (.inl Bf)))] sz (fun v W1 => ∃ (s1 : Nat → Int64) (before1 : Nat → Int64), v = none ∧ W1 = [((am 0), .inr (8, [.int th, .ref (am 1), .ref (am 2), .ref (am 3), .ref (am 4), .ref (am 5), .long bu, .long he, .ref (am 6), .ref (am 7)])), ((am 1), .inl (ct 1, 334, .inr (.inl s1))), ((am 6), .inl (ct 1, 9, .inr (.inl before1)))] ∧ ((∀ a j, a < 5 → j < cnt - 1 → fS s1 before1 a j = r_rem (fS S Bf) at9 a j) ∧ s1 210 = lN (cnt - 1) ∧ oth s1 S))) args s 0 0 A) (F0 m 2 ls []) := by
    intro n9
    induction n9 with
    | zero => intro k T B1 hk hT hT2 hT3 hn9 H locs ls hP hD hS hl; exact absurd hn9 (Nat.not_lt_zero _)
    | succ n9 ih_2 =>
      intro k T B1 hk hT hT2 hT3 hn9 H locs ls hP hD hS hl
      refine lv_iload_n hx hb d_M_removes_2 rfl (lv_at hl 2 rfl) ?_
      refine lv_iconst (v := 1) hx hb d_M_removes_3 (by decide) ?_
      refine q_iadd (v := nI (k + 1)) hx hb d_M_removes_4 (nI_add k 1) ?_
      refine lv_i2l (v := lN (k + 1)) hx hb d_M_removes_5 (nI_l (by omega)) ?_
      refine lv_aload_n hx hb d_M_removes_6 rfl (lv_at hl 0 rfl) ?_
      refine q_get 0 1 i_M rfl hx hb hts hown hE hP rfl (by decide) x_937 rfl d_M_removes_7 ?_
      refine lv_sipush (v := 210) hx hb d_M_removes_10 (by decide) ?_
      refine q_lald (k := 210) 1 hx hb hE hP rfl rfl (by omega) (by decide) d_M_removes_13 ?_
      refine q_topl (v := lN cnt) (hT2.trans hcnt) ?_
      refine W.lcmp hx hb d_M_removes_14 ?_
      refine q_cmp_ge (tgt := 32) hx hb d_M_removes_15 (by decide) (fun h_15 => ?_) (fun h_15 => ?_)
      · have hkc : cnt ≤ k + 1 := by rw [lN_le (by omega) (by omega)] at h_15; exact h_15
        refine lv_aload_n hx hb d_M_removes_32 rfl (lv_at hl 0 rfl) ?_
        refine q_get 0 1 i_M rfl hx hb hts hown hE hP rfl (by decide) x_937 rfl d_M_removes_33 ?_
        refine lv_sipush (v := 210) hx hb d_M_removes_36 (by decide) ?_
        refine lv_dup2_11 hx hb d_M_removes_39 rfl rfl ?_
        refine q_lald (k := 210) 1 hx hb hE hP rfl rfl (by omega) (by decide) d_M_removes_40 ?_
        refine lv_lconst (v := 1) hx hb d_M_removes_41 (by decide) ?_
        refine lv_lsub hx hb d_M_removes_42 ?_
        obtain ⟨s_1, es_1⟩ : ∃ g9 : Nat → Int64, g9 = vp_updL T 210 ((T 210) - 1) := ⟨_, rfl⟩
        refine q_last (k := 210) 1 (ws1 := [((am 0), .inr (8, [.int th, .ref (am 1), .ref (am 2), .ref (am 3), .ref (am 4), .ref (am 5), .long bu, .long he, .ref (am 6), .ref (am 7)])), ((am 1), .inl (ct 1, 334, .inr (.inl s_1))), ((am 6), .inl (ct 1, 9, .inr (.inl B1)))]) es_1 hx hb hE hP hD hS rfl rfl (by omega) (by decide) rfl d_M_removes_43 (fun H locs hP hD hS => ?_)
        exact rW_v hx hb hr hlk hAe hS hP hD (Nat.le_of_ble_eq_true rfl) (Nat.le_of_ble_eq_true rfl) d_M_removes_44 ⟨s_1, B1, rfl, rfl, ⟨fun a j ha hj => by rw [fS_cnt es_1]; exact rm_end hkc hc8 hT a j ha hj, by rw [es_1, pk_uLs, hT2, hcnt]; exact lN_sub (b := 1) (by omega), (oth_cnt es_1).trans hT3⟩⟩
      · have hkc : k + 1 < cnt := by rw [lN_le (by omega) (by omega)] at h_15; omega
        refine lv_aload_n hx hb d_M_removes_18 rfl (lv_at hl 0 rfl) ?_
        refine lv_iload_n hx hb d_M_removes_19 rfl (lv_at hl 2 rfl) ?_
        refine lv_iconst (v := 1) hx hb d_M_removes_20 (by decide) ?_
        refine q_iadd (v := nI (k + 1)) hx hb d_M_removes_21 (nI_add k 1) ?_
        refine lv_iload_n hx hb d_M_removes_22 rfl (lv_at hl 2 rfl) ?_
        refine cWV (As := [.int (nI (k + 1)), .int (nI k)]) (rest := []) (q9 := 0) (ci := 8) K_M_copies x_1129 hx hb hml hown hts hE hV hS (c_M_copies l D ct st am th bu he T B1 (k + 1) k (by omega) (by omega) _) hP hD hA [0, 1, 2] [] (wr := []) rfl rfl (by decide) (by decide) (by decide) rfl hP rfl rfl hl.1 rfl (Nat.le_of_ble_eq_true rfl) d_M_removes_23 (Nat.le_of_ble_eq_true rfl) (Nat.le_of_ble_eq_true rfl) ⟨Nat.le_of_ble_eq_true rfl, Nat.le_of_ble_eq_true rfl⟩ (fun v W1 H locs hpost hP hD hS => ?_)
        obtain ⟨s1_1, before1_1, rfl, rfl, hq_23⟩ := hpost
        have hP : va_P D classes [((am 0), .inr (8, [.int th, .ref (am 1), .ref (am 2), .ref (am 3), .ref (am 4), .ref (am 5), .long bu, .long he, .ref (am 6), .ref (am 7)])), ((am 1), .inl (ct 1, 334, .inr (.inl s1_1))), ((am 6), .inl (ct 1, 9, .inr (.inl before1_1)))] H := hP
        have hD : va_D A [((am 0), .inr (8, [.int th, .ref (am 1), .ref (am 2), .ref (am 3), .ref (am 4), .ref (am 5), .long bu, .long he, .ref (am 6), .ref (am 7)])), ((am 1), .inl (ct 1, 334, .inr (.inl s1_1))), ((am 6), .inl (ct 1, 9, .inr (.inl before1_1)))] := hD
        refine lv_iinc (v := (nI (k + 1))) (lv' := [(2, .int (nI (k + 1))), (0, .ref (am 0)), (1, .int (nI at9))]) hx hb d_M_removes_26 hl (k := 2) rfl (nI_1 _) (by decide) rfl (fun ls hl => ?_)
        refine lv_goto (tgt := 2) hx hb d_M_removes_29 (by decide) ?_
        exact ih_2 (k + 1) s1_1 before1_1 (by omega) (rm_step (by omega) (by omega) hT hq_23.1) (hq_23.2.1.trans hT2) (hq_23.2.2.trans hT3) (by omega) _ _ _ hP hD hS (lv_sub hl [1, 2, 0] rfl)
  exact loop_2 _ at9 S Bf (by omega) (fun a j ha hj => (if_neg (by omega)).symm) (rfl) (fun _ _ => rfl) (Nat.lt_succ_self _) _ _ _ hP hD hS (lv_sub hl [1, 2, 0] rfl)
set_option maxHeartbeats 4000000 in
set_option maxRecDepth 100000 in
theorem c_M_turns (l : Launch) (D : va_G) (ct : Nat → ClassId) (st : Nat → Nat) (am : Nat → Nat) (th : Int32) (bu : Int64) (he : Int64) (S : Nat → Int64) (Bf : Nat → Int64) (k : Nat) (h1 : k + 1 < 8) (sz : Nat) : Met l y_M_turns (wsy y_M_turns b_M_turns 10 (none)) (rmW 1 0 0 29) (PcW D ct st [.ref (am 0), .int (nI k)] [((am 0), .inr (8, [.int th, .ref (am 1), .ref (am 2), .ref (am 3), .ref (am 4), .ref (am 5), .long bu, .long he, .ref (am 6), .ref (am 7)])), ((am 1), .inl (ct 1, 334, .inr (.inl S))), ((am 6), .inl (ct 1, 9, .inr (.inl Bf)))] sz) (QcW D [((am 0), .inr (8, [.int th, .ref (am 1), .ref (am 2), .ref (am 3), .ref (am 4), .ref (am 5), .long bu, .long he, .ref (am 6), .ref (am 7)])), ((am 1), .inl (ct 1, 334, .inr (.inl S))), ((am 6), .inl (ct 1, 9, .inr (.inl Bf)))] sz (fun v W1 => ∃ (s1 : Nat → Int64) (before1 : Nat → Int64), v = none ∧ W1 = [((am 0), .inr (8, [.int th, .ref (am 1), .ref (am 2), .ref (am 3), .ref (am 4), .ref (am 5), .long bu, .long he, .ref (am 6), .ref (am 7)])), ((am 1), .inl (ct 1, 334, .inr (.inl s1))), ((am 6), .inl (ct 1, 9, .inr (.inl before1)))] ∧ ((∀ a j, a < 5 → j < 8 → fS s1 before1 a j = if j = k + 1 then (if a = 4 then fS S Bf 1 k else fS S Bf a k) else if j = k then fS S Bf a (k + 1) else fS S Bf a j) ∧ s1 210 = S 210 ∧ oth s1 S))) 0 0 (va_A [((am 0), .inr (8, [.int th, .ref (am 1), .ref (am 2), .ref (am 3), .ref (am 4), .ref (am 5), .long bu, .long he, .ref (am 6), .ref (am 7)])), ((am 1), .inl (ct 1, 334, .inr (.inl S))), ((am 6), .inl (ct 1, 9, .inr (.inl Bf)))] sz) := by
  refine enterW (by decide) (Nat.le_of_ble_eq_true rfl) ?_
  intro p e s m args below meth c ls A hx hb hr hml hown hts hlk hin hsz hAe hP hD hA hE hV hS hl
  have hl : lv_has ls 10 [(0, .ref (am 0)), (1, .int (nI k))] := hl
  refine lv_aload_n hx hb d_M_turns_0 rfl (lv_at hl 0 rfl) ?_
  refine q_get 0 1 i_M rfl hx hb hts hown hE hP rfl (by decide) x_937 rfl d_M_turns_1 ?_
  refine lv_sipush (v := 211) hx hb d_M_turns_4 (by decide) ?_
  refine lv_iload_n hx hb d_M_turns_7 rfl (lv_at hl 1 rfl) ?_
  refine q_iadd (v := nI (211 + k)) hx hb d_M_turns_8 (nI_add 211 k) ?_
  refine q_lald (k := 211 + k) 1 hx hb hE hP rfl rfl (by omega) (by decide) d_M_turns_9 ?_
  refine lv_lstore_n (lv' := [(2, .long (S (211 + k))), (0, .ref (am 0)), (1, .int (nI k))]) hx hb d_M_turns_10 rfl hl (by decide) rfl (fun ls hl => ?_)
  refine lv_aload_n hx hb d_M_turns_11 rfl (lv_at hl 1 rfl) ?_
  refine q_get 0 1 i_M rfl hx hb hts hown hE hP rfl (by decide) x_937 rfl d_M_turns_12 ?_
  refine lv_sipush (v := 227) hx hb d_M_turns_15 (by decide) ?_
  refine lv_iload_n hx hb d_M_turns_18 rfl (lv_at hl 2 rfl) ?_
  refine q_iadd (v := nI (227 + k)) hx hb d_M_turns_19 (nI_add 227 k) ?_
  refine q_lald (k := 227 + k) 1 hx hb hE hP rfl rfl (by omega) (by decide) d_M_turns_20 ?_
  refine lv_lstore (lv' := [(4, .long (S (227 + k))), (2, .long (S (211 + k))), (0, .ref (am 0)), (1, .int (nI k))]) hx hb d_M_turns_21 hl (by decide) rfl (fun ls hl => ?_)
  refine lv_aload_n hx hb d_M_turns_23 rfl (lv_at hl 2 rfl) ?_
  refine q_get 0 1 i_M rfl hx hb hts hown hE hP rfl (by decide) x_937 rfl d_M_turns_24 ?_
  refine lv_sipush (v := 235) hx hb d_M_turns_27 (by decide) ?_
  refine lv_iload_n hx hb d_M_turns_30 rfl (lv_at hl 3 rfl) ?_
  refine q_iadd (v := nI (235 + k)) hx hb d_M_turns_31 (nI_add 235 k) ?_
  refine q_lald (k := 235 + k) 1 hx hb hE hP rfl rfl (by omega) (by decide) d_M_turns_32 ?_
  refine lv_lstore (lv' := [(6, .long (S (235 + k))), (4, .long (S (227 + k))), (2, .long (S (211 + k))), (0, .ref (am 0)), (1, .int (nI k))]) hx hb d_M_turns_33 hl (by decide) rfl (fun ls hl => ?_)
  refine lv_aload_n hx hb d_M_turns_35 rfl (lv_at hl 3 rfl) ?_
  refine q_get 0 1 i_M rfl hx hb hts hown hE hP rfl (by decide) x_937 rfl d_M_turns_36 ?_
  refine lv_sipush (v := 219) hx hb d_M_turns_39 (by decide) ?_
  refine lv_iload_n hx hb d_M_turns_42 rfl (lv_at hl 4 rfl) ?_
  refine q_iadd (v := nI (219 + k)) hx hb d_M_turns_43 (nI_add 219 k) ?_
  refine q_lald (k := 219 + k) 1 hx hb hE hP rfl rfl (by omega) (by decide) d_M_turns_44 ?_
  refine lv_lstore (lv' := [(8, .long (S (219 + k))), (6, .long (S (235 + k))), (4, .long (S (227 + k))), (2, .long (S (211 + k))), (0, .ref (am 0)), (1, .int (nI k))]) hx hb d_M_turns_45 hl (by decide) rfl (fun ls hl => ?_)
  refine lv_aload_n hx hb d_M_turns_47 rfl (lv_at hl 4 rfl) ?_
  refine lv_iload_n hx hb d_M_turns_48 rfl (lv_at hl 5 rfl) ?_
  refine lv_iconst (v := 1) hx hb d_M_turns_49 (by decide) ?_
  refine q_iadd (v := nI (k + 1)) hx hb d_M_turns_50 (nI_add k 1) ?_
  refine lv_iload_n hx hb d_M_turns_51 rfl (lv_at hl 5 rfl) ?_
  refine cWV (As := [.int (nI (k + 1)), .int (nI k)]) (rest := []) (q9 := 0) (ci := 8) K_M_copies x_1129 hx hb hml hown hts hE hV hS (c_M_copies l D ct st am th bu he S Bf (k + 1) k (by omega) (by omega) _) hP hD hA [0, 1, 2] [] (wr := []) rfl rfl (by decide) (by decide) (by decide) rfl hP rfl rfl hl.1 rfl (Nat.le_of_ble_eq_true rfl) d_M_turns_52 (Nat.le_of_ble_eq_true rfl) (Nat.le_of_ble_eq_true rfl) ⟨Nat.le_of_ble_eq_true rfl, Nat.le_of_ble_eq_true rfl⟩ (fun v W1 H locs hpost hP hD hS => ?_)
  obtain ⟨s1_1, before1_1, rfl, rfl, hq_52⟩ := hpost
  have hP : va_P D classes [((am 0), .inr (8, [.int th, .ref (am 1), .ref (am 2), .ref (am 3), .ref (am 4), .ref (am 5), .long bu, .long he, .ref (am 6), .ref (am 7)])), ((am 1), .inl (ct 1, 334, .inr (.inl s1_1))), ((am 6), .inl (ct 1, 9, .inr (.inl before1_1)))] H := hP
  have hD : va_D A [((am 0), .inr (8, [.int th, .ref (am 1), .ref (am 2), .ref (am 3), .ref (am 4), .ref (am 5), .long bu, .long he, .ref (am 6), .ref (am 7)])), ((am 1), .inl (ct 1, 334, .inr (.inl s1_1))), ((am 6), .inl (ct 1, 9, .inr (.inl before1_1)))] := hD
  refine lv_aload_n hx hb d_M_turns_55 rfl (lv_at hl 4 rfl) ?_
  refine lv_iload_n hx hb d_M_turns_56 rfl (lv_at hl 5 rfl) ?_
  refine lv_iconst (v := 1) hx hb d_M_turns_57 (by decide) ?_
  refine q_iadd (v := nI (k + 1)) hx hb d_M_turns_58 (nI_add k 1) ?_
  refine lv_lload_n hx hb d_M_turns_59 rfl (lv_at hl 3 rfl) ?_
  refine lv_lload hx hb d_M_turns_60 (lv_at hl 0 rfl) ?_
  refine lv_lload hx hb d_M_turns_62 (lv_at hl 2 rfl) ?_
  refine lv_lload hx hb d_M_turns_64 (lv_at hl 1 rfl) ?_
  refine cWV (As := [.int (nI (k + 1)), .long (S (211 + k)), .long (S (219 + k)), .long (S (227 + k)), .long (S (235 + k))]) (rest := []) (q9 := 0) (ci := 8) K_M_sets x_1133 hx hb hml hown hts hE hV hS (c_M_sets l D ct st am th bu he s1_1 before1_1 (k + 1) (S (211 + k)) (S (219 + k)) (S (227 + k)) (S (235 + k)) (by omega) _) hP hD hA [0, 1, 2] [] (wr := []) rfl rfl (by decide) (by decide) (by decide) rfl hP rfl rfl hl.1 rfl (Nat.le_of_ble_eq_true rfl) d_M_turns_66 (Nat.le_of_ble_eq_true rfl) (Nat.le_of_ble_eq_true rfl) ⟨Nat.le_of_ble_eq_true rfl, Nat.le_of_ble_eq_true rfl⟩ (fun v W1 H locs hpost hP hD hS => ?_)
  obtain ⟨s1_2, before1_2, rfl, rfl, hq_66⟩ := hpost
  have hP : va_P D classes [((am 0), .inr (8, [.int th, .ref (am 1), .ref (am 2), .ref (am 3), .ref (am 4), .ref (am 5), .long bu, .long he, .ref (am 6), .ref (am 7)])), ((am 1), .inl (ct 1, 334, .inr (.inl s1_2))), ((am 6), .inl (ct 1, 9, .inr (.inl before1_2)))] H := hP
  have hD : va_D A [((am 0), .inr (8, [.int th, .ref (am 1), .ref (am 2), .ref (am 3), .ref (am 4), .ref (am 5), .long bu, .long he, .ref (am 6), .ref (am 7)])), ((am 1), .inl (ct 1, 334, .inr (.inl s1_2))), ((am 6), .inl (ct 1, 9, .inr (.inl before1_2)))] := hD
  exact rW_v hx hb hr hlk hAe hS hP hD (Nat.le_of_ble_eq_true rfl) (Nat.le_of_ble_eq_true rfl) d_M_turns_69 ⟨s1_2, before1_2, rfl, rfl, ⟨fun a j ha hj => by
            rw [hq_66.1 a j ha hj]
            by_cases q : j = k + 1
            · rw [if_pos q, if_pos q]; exact r_new_fS ha
            · rw [if_neg q, if_neg q, hq_52.1 a j ha hj], hq_66.2.1.trans hq_52.2.1, hq_66.2.2.trans hq_52.2.2⟩⟩
abbrev r_go (a b : Int64) : Prop := ¬ 0 < a.toInt * b.toInt
theorem r_go_iff {a b : Int64} : (a = 0 ∨ b = 0 ∨ ¬ (0 < a ↔ 0 < b)) → r_go a b := by
  intro h
  unfold r_go
  rw [show (0 < a ↔ 0 < b) ↔ (0 < a.toInt ↔ 0 < b.toInt) by rw [Int64.lt_iff_toInt_lt, Int64.lt_iff_toInt_lt]; exact Iff.rfl] at h
  rw [← Int64.toInt_inj, ← Int64.toInt_inj] at h
  rcases h with h | h | h
  · rw [h]; show ¬ 0 < 0 * _; rw [Int.zero_mul]; decide
  · rw [h]; show ¬ 0 < _ * 0; rw [Int.mul_zero]; decide
  · intro z
    apply h
    constructor
    · intro x; exact Int.pos_of_mul_pos_right (a := a.toInt) z x |> id
    · intro x; rw [Int.mul_comm] at z; exact Int.pos_of_mul_pos_right z x
theorem r_go_not {a b : Int64} (h1 : ¬ a = 0) (h2 : ¬ b = 0) (h : 0 < a ↔ 0 < b) : ¬ r_go a b := by
  unfold r_go
  rw [show (0 < a ↔ 0 < b) ↔ (0 < a.toInt ↔ 0 < b.toInt) by rw [Int64.lt_iff_toInt_lt, Int64.lt_iff_toInt_lt]; exact Iff.rfl] at h
  rw [← Int64.toInt_inj] at h1 h2
  have h1 : ¬ a.toInt = 0 := h1
  have h2 : ¬ b.toInt = 0 := h2
  intro z
  apply z
  rcases Int.lt_or_lt_of_ne h1 with q | q
  · have q2 : b.toInt < 0 := by
      rcases Int.lt_or_lt_of_ne h2 with r | r
      · exact r
      · exact absurd (h.mpr r) (by omega)
    exact Int.mul_pos_of_neg_of_neg q q2
  · exact Int.mul_pos q (h.mp q)
set_option maxHeartbeats 4000000 in
set_option maxRecDepth 100000 in
theorem c_M_goThrough (l : Launch) (D : va_G) (ct : Nat → ClassId) (st : Nat → Nat) (x : Int64) (y : Int64) : Met l y_M_goThrough (wsy y_M_goThrough b_M_goThrough 4 (some .boolean)) (k2_rm 0 0) (PcR D ct st [.long x, .long y] []) (k2_QcV (.int (bI (r_go x y)))) 0 0 (fun _ => False) := by
  refine enterR (by decide) (Nat.le_of_ble_eq_true rfl) ?_
  intro p e s m args below meth c ls hx hb hr hml hown hts hlk hP hE hV hS hl
  have hl : lv_has ls 4 [(0, .long x), (2, .long y)] := hl
  refine lv_lload_n hx hb d_M_goThrough_0 rfl (lv_at hl 0 rfl) ?_
  refine lv_lconst (v := 0) hx hb d_M_goThrough_1 (by decide) ?_
  refine W.lcmp hx hb d_M_goThrough_2 ?_
  refine q_cmp_eq (tgt := 37) hx hb d_M_goThrough_3 (by decide) (fun h_3 => ?_) (fun h_3 => ?_)
  · refine lv_iconst (v := 1) hx hb d_M_goThrough_37 (by decide) ?_
    refine lv_goto (tgt := 42) hx hb d_M_goThrough_38 (by decide) ?_
    exact rR_z hx hb hr hlk d_M_goThrough_42 (bI_1 (by first | exact r_go_iff (Or.inl h_3) | exact r_go_iff (Or.inr (Or.inl h_9)) | exact r_go_iff (Or.inr (Or.inr (fun z => absurd (z.mp (Int64.not_le.mp h_15)) (Int64.not_lt.mpr h_26)))) | exact r_go_iff (Or.inr (Or.inr (fun z => absurd (z.mpr (Int64.not_le.mp h_26)) (Int64.not_lt.mpr h_15)))) | exact r_go_not h_3 h_9 ⟨fun _ => Int64.not_le.mp h_26, fun _ => Int64.not_le.mp h_15⟩ | exact r_go_not h_3 h_9 ⟨fun z => absurd z (Int64.not_lt.mpr h_15), fun z => absurd z (Int64.not_lt.mpr h_26)⟩))
  · refine lv_lload_n hx hb d_M_goThrough_6 rfl (lv_at hl 1 rfl) ?_
    refine lv_lconst (v := 0) hx hb d_M_goThrough_7 (by decide) ?_
    refine W.lcmp hx hb d_M_goThrough_8 ?_
    refine q_cmp_eq (tgt := 37) hx hb d_M_goThrough_9 (by decide) (fun h_9 => ?_) (fun h_9 => ?_)
    · refine lv_iconst (v := 1) hx hb d_M_goThrough_37 (by decide) ?_
      refine lv_goto (tgt := 42) hx hb d_M_goThrough_38 (by decide) ?_
      exact rR_z hx hb hr hlk d_M_goThrough_42 (bI_1 (by first | exact r_go_iff (Or.inl h_3) | exact r_go_iff (Or.inr (Or.inl h_9)) | exact r_go_iff (Or.inr (Or.inr (fun z => absurd (z.mp (Int64.not_le.mp h_15)) (Int64.not_lt.mpr h_26)))) | exact r_go_iff (Or.inr (Or.inr (fun z => absurd (z.mpr (Int64.not_le.mp h_26)) (Int64.not_lt.mpr h_15)))) | exact r_go_not h_3 h_9 ⟨fun _ => Int64.not_le.mp h_26, fun _ => Int64.not_le.mp h_15⟩ | exact r_go_not h_3 h_9 ⟨fun z => absurd z (Int64.not_lt.mpr h_15), fun z => absurd z (Int64.not_lt.mpr h_26)⟩))
    · refine lv_lload_n hx hb d_M_goThrough_12 rfl (lv_at hl 0 rfl) ?_
      refine lv_lconst (v := 0) hx hb d_M_goThrough_13 (by decide) ?_
      refine W.lcmp hx hb d_M_goThrough_14 ?_
      refine q_cmp_le (tgt := 22) hx hb d_M_goThrough_15 (by decide) (fun h_15 => ?_) (fun h_15 => ?_)
      · refine lv_iconst (v := 0) hx hb d_M_goThrough_22 (by decide) ?_
        refine lv_lload_n hx hb d_M_goThrough_23 rfl (lv_at hl 1 rfl) ?_
        refine lv_lconst (v := 0) hx hb d_M_goThrough_24 (by decide) ?_
        refine W.lcmp hx hb d_M_goThrough_25 ?_
        refine q_cmp_le (tgt := 33) hx hb d_M_goThrough_26 (by decide) (fun h_26 => ?_) (fun h_26 => ?_)
        · refine lv_iconst (v := 0) hx hb d_M_goThrough_33 (by decide) ?_
          refine lv_icmp_eq (tgt := 41) hx hb d_M_goThrough_34 (by decide) (fun _ => ?_) (fun h => absurd h (by decide))
          refine lv_iconst (v := 0) hx hb d_M_goThrough_41 (by decide) ?_
          exact rR_z hx hb hr hlk d_M_goThrough_42 (bI_0 (by first | exact r_go_iff (Or.inl h_3) | exact r_go_iff (Or.inr (Or.inl h_9)) | exact r_go_iff (Or.inr (Or.inr (fun z => absurd (z.mp (Int64.not_le.mp h_15)) (Int64.not_lt.mpr h_26)))) | exact r_go_iff (Or.inr (Or.inr (fun z => absurd (z.mpr (Int64.not_le.mp h_26)) (Int64.not_lt.mpr h_15)))) | exact r_go_not h_3 h_9 ⟨fun _ => Int64.not_le.mp h_26, fun _ => Int64.not_le.mp h_15⟩ | exact r_go_not h_3 h_9 ⟨fun z => absurd z (Int64.not_lt.mpr h_15), fun z => absurd z (Int64.not_lt.mpr h_26)⟩))
        · refine lv_iconst (v := 1) hx hb d_M_goThrough_29 (by decide) ?_
          refine lv_goto (tgt := 34) hx hb d_M_goThrough_30 (by decide) ?_
          refine lv_icmp_eq (tgt := 41) hx hb d_M_goThrough_34 (by decide) (fun h => absurd h (by decide)) (fun _ => ?_)
          refine lv_iconst (v := 1) hx hb d_M_goThrough_37 (by decide) ?_
          refine lv_goto (tgt := 42) hx hb d_M_goThrough_38 (by decide) ?_
          exact rR_z hx hb hr hlk d_M_goThrough_42 (bI_1 (by first | exact r_go_iff (Or.inl h_3) | exact r_go_iff (Or.inr (Or.inl h_9)) | exact r_go_iff (Or.inr (Or.inr (fun z => absurd (z.mp (Int64.not_le.mp h_15)) (Int64.not_lt.mpr h_26)))) | exact r_go_iff (Or.inr (Or.inr (fun z => absurd (z.mpr (Int64.not_le.mp h_26)) (Int64.not_lt.mpr h_15)))) | exact r_go_not h_3 h_9 ⟨fun _ => Int64.not_le.mp h_26, fun _ => Int64.not_le.mp h_15⟩ | exact r_go_not h_3 h_9 ⟨fun z => absurd z (Int64.not_lt.mpr h_15), fun z => absurd z (Int64.not_lt.mpr h_26)⟩))
      · refine lv_iconst (v := 1) hx hb d_M_goThrough_18 (by decide) ?_
        refine lv_goto (tgt := 23) hx hb d_M_goThrough_19 (by decide) ?_
        refine lv_lload_n hx hb d_M_goThrough_23 rfl (lv_at hl 1 rfl) ?_
        refine lv_lconst (v := 0) hx hb d_M_goThrough_24 (by decide) ?_
        refine W.lcmp hx hb d_M_goThrough_25 ?_
        refine q_cmp_le (tgt := 33) hx hb d_M_goThrough_26 (by decide) (fun h_26 => ?_) (fun h_26 => ?_)
        · refine lv_iconst (v := 0) hx hb d_M_goThrough_33 (by decide) ?_
          refine lv_icmp_eq (tgt := 41) hx hb d_M_goThrough_34 (by decide) (fun h => absurd h (by decide)) (fun _ => ?_)
          refine lv_iconst (v := 1) hx hb d_M_goThrough_37 (by decide) ?_
          refine lv_goto (tgt := 42) hx hb d_M_goThrough_38 (by decide) ?_
          exact rR_z hx hb hr hlk d_M_goThrough_42 (bI_1 (by first | exact r_go_iff (Or.inl h_3) | exact r_go_iff (Or.inr (Or.inl h_9)) | exact r_go_iff (Or.inr (Or.inr (fun z => absurd (z.mp (Int64.not_le.mp h_15)) (Int64.not_lt.mpr h_26)))) | exact r_go_iff (Or.inr (Or.inr (fun z => absurd (z.mpr (Int64.not_le.mp h_26)) (Int64.not_lt.mpr h_15)))) | exact r_go_not h_3 h_9 ⟨fun _ => Int64.not_le.mp h_26, fun _ => Int64.not_le.mp h_15⟩ | exact r_go_not h_3 h_9 ⟨fun z => absurd z (Int64.not_lt.mpr h_15), fun z => absurd z (Int64.not_lt.mpr h_26)⟩))
        · refine lv_iconst (v := 1) hx hb d_M_goThrough_29 (by decide) ?_
          refine lv_goto (tgt := 34) hx hb d_M_goThrough_30 (by decide) ?_
          refine lv_icmp_eq (tgt := 41) hx hb d_M_goThrough_34 (by decide) (fun _ => ?_) (fun h => absurd h (by decide))
          refine lv_iconst (v := 0) hx hb d_M_goThrough_41 (by decide) ?_
          exact rR_z hx hb hr hlk d_M_goThrough_42 (bI_0 (by first | exact r_go_iff (Or.inl h_3) | exact r_go_iff (Or.inr (Or.inl h_9)) | exact r_go_iff (Or.inr (Or.inr (fun z => absurd (z.mp (Int64.not_le.mp h_15)) (Int64.not_lt.mpr h_26)))) | exact r_go_iff (Or.inr (Or.inr (fun z => absurd (z.mpr (Int64.not_le.mp h_26)) (Int64.not_lt.mpr h_15)))) | exact r_go_not h_3 h_9 ⟨fun _ => Int64.not_le.mp h_26, fun _ => Int64.not_le.mp h_15⟩ | exact r_go_not h_3 h_9 ⟨fun z => absurd z (Int64.not_lt.mpr h_15), fun z => absurd z (Int64.not_lt.mpr h_26)⟩))
