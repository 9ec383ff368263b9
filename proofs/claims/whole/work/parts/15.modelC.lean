/-! the pipe in numbers: heads, flows, cavities of the nodes -/
abbrev pH (S : Nat → Int64) : Nat → Int64 := fun k => S (250 + k)
abbrev pF (S : Nat → Int64) : Nat → Int64 := fun k => S (271 + k)
abbrev pC (S : Nat → Int64) : Nat → Int64 := fun k => S (292 + k)
abbrev pG (S : Nat → Int64) : Nat → Int64 := fun k => S (313 + k)
def p_rub (r : Int64) (fl : Nat → Int64) (k : Nat) : Int64 := r * fl k * w_sz (fl k) / 100
def p_l (hd fl : Nat → Int64) (b r : Int64) (k : Nat) : Int64 := hd (k - 1) + b * fl (k - 1) - p_rub r fl (k - 1)
def p_r (hd fl : Nat → Int64) (b r : Int64) (k : Nat) : Int64 := hd (k + 1) - b * fl (k + 1) + p_rub r fl (k + 1)
def p_d (hd fl : Nat → Int64) (b r : Int64) (la k : Nat) : Int64 := if k = la then 0 else p_r hd fl b r k
def p_fl (hd fl : Nat → Int64) (b r z op : Int64) (la k : Nat) : Int64 := if k < la then (p_l hd fl b r k - p_d hd fl b r la k) / (2 * b) else if p_l hd fl b r k < 0 then 0 else op * p_l hd fl b r k / (100 * z + op * b)
def p_hd (hd fl : Nat → Int64) (b r z op : Int64) (la k : Nat) : Int64 := if k < la then fd (p_l hd fl b r k + p_d hd fl b r la k) 2 else p_l hd fl b r k - b * p_fl hd fl b r z op la k
def p_go (hd fl : Nat → Int64) (b r : Int64) (la k : Nat) : Int64 := if k = la then 0 else ((-100) - p_d hd fl b r la k) / b
def p_cv (hd fl cv : Nat → Int64) (b r z op : Int64) (la k : Nat) : Int64 := if 0 < cv k ∨ p_hd hd fl b r z op la k < -100 then cv k + p_go hd fl b r la k - (p_l hd fl b r k + 100) / b else 0
/-- a node as it will be -/
def p_nh (hd fl cv : Nat → Int64) (b r z src op : Int64) (la k : Nat) : Int64 := if k = 0 then src else if 0 < p_cv hd fl cv b r z op la k then -100 else p_hd hd fl b r z op la k
def p_nf (hd fl cv : Nat → Int64) (b r z src op : Int64) (la k : Nat) : Int64 := if k = 0 then (src - p_r hd fl b r 0) / b else if 0 < p_cv hd fl cv b r z op la k then p_go hd fl b r la k else p_fl hd fl b r z op la k
def p_nc (hd fl cv : Nat → Int64) (b r z src op : Int64) (la k : Nat) : Int64 := if k = 0 then 0 else if 0 < p_cv hd fl cv b r z op la k then p_cv hd fl cv b r z op la k else 0
def p_okn (hd fl cv : Nat → Int64) (b r z src op : Int64) (la k : Nat) : Prop := w_in (p_nh hd fl cv b r z src op la k) (-1000000) 1000000 ∧ w_in (p_nf hd fl cv b r z src op la k) (-100000) 100000
def p_ok (hd fl cv : Nat → Int64) (b r z src op : Int64) (la : Nat) : Prop := ∀ k, k ≤ la → p_okn hd fl cv b r z src op la k
/-- a pipe that stands -/
def PS (S : Nat → Int64) (la b r z src op : Nat) : Prop := S 243 = 1 ∧ (S 244 = lN la ∧ 1 ≤ la ∧ la ≤ 20) ∧ (S 245 = lN b ∧ 1 ≤ b ∧ b ≤ 50) ∧ (S 246 = lN r ∧ r ≤ 20) ∧ (S 247 = lN z ∧ 1 ≤ z ∧ z ≤ 50) ∧ (S 248 = lN src ∧ src ≤ 2000) ∧ (S 249 = lN op ∧ op ≤ 100) ∧ ∀ k, k ≤ la → w_in (S (250 + k)) (-1000000) 1000000 ∧ w_in (S (271 + k)) (-100000) 100000
theorem lNp {a : Nat} (h : 1 ≤ a) (h2 : a < 2 ^ 31) : ¬ lN a = 0 := by
  rw [show (0 : Int64) = lN 0 from rfl, lN_eq h2 (by decide)]; omega
abbrev sPok (S : Nat → Int64) (la : Nat) : Prop := p_ok (pH S) (pF S) (pC S) (S 245) (S 246) (S 247) (S 248) (S 249) la
def PStp (la : Nat) (S S1 : Nat → Int64) : Prop :=
  (∀ k, k ≤ la → S1 (250 + k) = p_nh (pH S) (pF S) (pC S) (S 245) (S 246) (S 247) (S 248) (S 249) la k ∧ S1 (271 + k) = p_nf (pH S) (pF S) (pC S) (S 245) (S 246) (S 247) (S 248) (S 249) la k ∧ S1 (292 + k) = p_nc (pH S) (pF S) (pC S) (S 245) (S 246) (S 247) (S 248) (S 249) la k ∧ S1 (313 + k) = (if S (313 + k) < p_nh (pH S) (pF S) (pC S) (S 245) (S 246) (S 247) (S 248) (S 249) la k then p_nh (pH S) (pF S) (pC S) (S 245) (S 246) (S 247) (S 248) (S 249) la k else S (313 + k))) ∧
  ∀ j, j < 250 → S1 j = S j
theorem PS.next {S S1 : Nat → Int64} {la b r z src op : Nat} (h : PS S la b r z src op) (hk : sPok S la) (hs : PStp la S S1) : PS S1 la b r z src op := by
  obtain ⟨h1, ⟨h2, h2'⟩, ⟨h3, h3'⟩, ⟨h4, h4'⟩, ⟨h5, h5'⟩, ⟨h6, h6'⟩, ⟨h7, h7'⟩, h8⟩ := h
  obtain ⟨s1, s2⟩ := hs
  refine ⟨(s2 _ (by omega)).trans h1, ⟨(s2 _ (by omega)).trans h2, h2'⟩, ⟨(s2 _ (by omega)).trans h3, h3'⟩, ⟨(s2 _ (by omega)).trans h4, h4'⟩, ⟨(s2 _ (by omega)).trans h5, h5'⟩, ⟨(s2 _ (by omega)).trans h6, h6'⟩, ⟨(s2 _ (by omega)).trans h7, h7'⟩, fun k hk9 => ?_⟩
  obtain ⟨q1, q2, -⟩ := s1 k hk9
  rw [q1, q2]
  exact hk k hk9
def PChn (la : Nat) (S : Nat → Int64) (k : Nat) (T : Nat → Int64) : Prop := ∃ X9 : Nat → (Nat → Int64), X9 0 = S ∧ X9 k = T ∧ ∀ j, j < k → sPok (X9 j) la ∧ PStp la (X9 j) (X9 (j + 1))
theorem PChn.zero {la : Nat} {S : Nat → Int64} : PChn la S 0 S := ⟨fun _ => S, rfl, rfl, fun j hj => absurd hj (Nat.not_lt_zero _)⟩
theorem PChn.ext {la : Nat} {S T T1 : Nat → Int64} {k : Nat} (h : PChn la S k T) (h1 : sPok T la) (h2 : PStp la T T1) : PChn la S (k + 1) T1 := by
  obtain ⟨X9, a, b, c⟩ := h
  refine ⟨fun j => if j ≤ k then X9 j else T1, by simp [a], if_neg (show ¬ k + 1 ≤ k by omega), fun j hj => ?_⟩
  rcases Nat.lt_succ_iff_lt_or_eq.mp hj with q | rfl
  · have := c j q
    simp only [if_pos (show j ≤ k by omega), if_pos (show j + 1 ≤ k by omega)]
    exact this
  · simp only [if_pos (Nat.le_refl j), if_neg (show ¬ j + 1 ≤ j by omega), b]
    exact ⟨h1, h2⟩

set_option maxHeartbeats 4000000 in
set_option maxRecDepth 100000 in
theorem c_M_rubs (l : Launch) (D : va_G) (ct : Nat → ClassId) (st : Nat → Nat) (am : Nat → Nat) (th : Int32) (bu : Int64) (he : Int64) (S : Nat → Int64) (k : Nat) (hk : k ≤ 20) : Met l y_M_rubs (wsy y_M_rubs b_M_rubs 2 (some .long)) (k2_rm 1 21) (PcR D ct st [.ref (am 0), .int (nI k)] [((am 0), .inr (8, [.int th, .ref (am 1), .ref (am 2), .ref (am 3), .ref (am 4), .ref (am 5), .long bu, .long he, .ref (am 6), .ref (am 7)])), ((am 1), .inl (ct 1, 334, .inr (.inl S)))]) (k2_QcV (.long (p_rub (S 246) (pF S) k))) 0 0 (fun _ => False) := by
  refine enterR (by decide) (Nat.le_of_ble_eq_true rfl) ?_
  intro p e s m args below meth c ls hx hb hr hml hown hts hlk hP hE hV hS hl
  have hl : lv_has ls 2 [(0, .ref (am 0)), (1, .int (nI k))] := hl
  refine lv_aload_n hx hb d_M_rubs_0 rfl (lv_at hl 0 rfl) ?_
  refine q_get 0 1 i_M rfl hx hb hts hown hE hP rfl (by decide) x_937 rfl d_M_rubs_1 ?_
  refine lv_sipush (v := 246) hx hb d_M_rubs_4 (by decide) ?_
  refine q_lald (k := 246) 1 hx hb hE hP rfl rfl (by omega) (by decide) d_M_rubs_7 ?_
  refine lv_aload_n hx hb d_M_rubs_8 rfl (lv_at hl 0 rfl) ?_
  refine q_get 0 1 i_M rfl hx hb hts hown hE hP rfl (by decide) x_937 rfl d_M_rubs_9 ?_
  refine lv_sipush (v := 271) hx hb d_M_rubs_12 (by decide) ?_
  refine lv_iload_n hx hb d_M_rubs_15 rfl (lv_at hl 1 rfl) ?_
  refine q_iadd (v := nI (271 + k)) hx hb d_M_rubs_16 (nI_add 271 k) ?_
  refine q_lald (k := 271 + k) 1 hx hb hE hP rfl rfl (by omega) (by decide) d_M_rubs_17 ?_
  refine lv_lmul hx hb d_M_rubs_18 ?_
  refine lv_aload_n hx hb d_M_rubs_19 rfl (lv_at hl 0 rfl) ?_
  refine q_get 0 1 i_M rfl hx hb hts hown hE hP rfl (by decide) x_937 rfl d_M_rubs_20 ?_
  refine lv_sipush (v := 271) hx hb d_M_rubs_23 (by decide) ?_
  refine lv_iload_n hx hb d_M_rubs_26 rfl (lv_at hl 1 rfl) ?_
  refine q_iadd (v := nI (271 + k)) hx hb d_M_rubs_27 (nI_add 271 k) ?_
  refine q_lald (k := 271 + k) 1 hx hb hE hP rfl rfl (by omega) (by decide) d_M_rubs_28 ?_
  refine cRS (As := [.long (S (271 + k))]) (rest := [.long ((S 246) * (S (271 + k)))]) K_M_size x_1035 hx hb hml hown hts hE hV hS (c_M_size l D ct st (S (271 + k))) (fun k q h => by simp at h) rfl hl.1 rfl (Nat.le_of_ble_eq_true rfl) d_M_rubs_29 (Nat.le_of_ble_eq_true rfl) (Nat.le_of_ble_eq_true rfl) ⟨Nat.zero_le _, Nat.zero_le _⟩ ?_
  refine lv_lmul hx hb d_M_rubs_32 ?_
  refine lv_ldc2 (v := 100) hx hb hown (hts _ (List.mem_cons_of_mem _ x_1011)) d_M_rubs_33 ?_
  refine lv_ldiv hx hb d_M_rubs_36 (by decide) ?_
  exact rR_l hx hb hr hlk d_M_rubs_37 (rfl)
set_option maxHeartbeats 4000000 in
set_option maxRecDepth 100000 in
theorem c_M_fromLeft (l : Launch) (D : va_G) (ct : Nat → ClassId) (st : Nat → Nat) (am : Nat → Nat) (th : Int32) (bu : Int64) (he : Int64) (S : Nat → Int64) (k : Nat) (hk : 1 ≤ k ∧ k ≤ 20) : Met l y_M_fromLeft (wsy y_M_fromLeft b_M_fromLeft 2 (some .long)) (k2_rm 2 42) (PcR D ct st [.ref (am 0), .int (nI k)] [((am 0), .inr (8, [.int th, .ref (am 1), .ref (am 2), .ref (am 3), .ref (am 4), .ref (am 5), .long bu, .long he, .ref (am 6), .ref (am 7)])), ((am 1), .inl (ct 1, 334, .inr (.inl S)))]) (k2_QcV (.long (p_l (pH S) (pF S) (S 245) (S 246) k))) 0 0 (fun _ => False) := by
  refine enterR (by decide) (Nat.le_of_ble_eq_true rfl) ?_
  intro p e s m args below meth c ls hx hb hr hml hown hts hlk hP hE hV hS hl
  have hl : lv_has ls 2 [(0, .ref (am 0)), (1, .int (nI k))] := hl
  refine lv_aload_n hx hb d_M_fromLeft_0 rfl (lv_at hl 0 rfl) ?_
  refine q_get 0 1 i_M rfl hx hb hts hown hE hP rfl (by decide) x_937 rfl d_M_fromLeft_1 ?_
  refine lv_sipush (v := 250) hx hb d_M_fromLeft_4 (by decide) ?_
  refine lv_iload_n hx hb d_M_fromLeft_7 rfl (lv_at hl 1 rfl) ?_
  refine q_iadd (v := nI (250 + k)) hx hb d_M_fromLeft_8 (nI_add 250 k) ?_
  refine lv_iconst (v := 1) hx hb d_M_fromLeft_9 (by decide) ?_
  refine q_isub (v := nI ((250 + k) - 1)) hx hb d_M_fromLeft_10 (pk_sub (a := 250 + k) (b := 1) (by omega)) ?_
  refine q_lald (k := (250 + k) - 1) 1 hx hb hE hP rfl rfl (by omega) (by decide) d_M_fromLeft_11 ?_
  refine q_topl (v := S (250 + (k - 1))) (congrArg S (by omega)) ?_
  refine lv_aload_n hx hb d_M_fromLeft_12 rfl (lv_at hl 0 rfl) ?_
  refine q_get 0 1 i_M rfl hx hb hts hown hE hP rfl (by decide) x_937 rfl d_M_fromLeft_13 ?_
  refine lv_sipush (v := 245) hx hb d_M_fromLeft_16 (by decide) ?_
  refine q_lald (k := 245) 1 hx hb hE hP rfl rfl (by omega) (by decide) d_M_fromLeft_19 ?_
  refine lv_aload_n hx hb d_M_fromLeft_20 rfl (lv_at hl 0 rfl) ?_
  refine q_get 0 1 i_M rfl hx hb hts hown hE hP rfl (by decide) x_937 rfl d_M_fromLeft_21 ?_
  refine lv_sipush (v := 271) hx hb d_M_fromLeft_24 (by decide) ?_
  refine lv_iload_n hx hb d_M_fromLeft_27 rfl (lv_at hl 1 rfl) ?_
  refine q_iadd (v := nI (271 + k)) hx hb d_M_fromLeft_28 (nI_add 271 k) ?_
  refine lv_iconst (v := 1) hx hb d_M_fromLeft_29 (by decide) ?_
  refine q_isub (v := nI ((271 + k) - 1)) hx hb d_M_fromLeft_30 (pk_sub (a := 271 + k) (b := 1) (by omega)) ?_
  refine q_lald (k := (271 + k) - 1) 1 hx hb hE hP rfl rfl (by omega) (by decide) d_M_fromLeft_31 ?_
  refine q_topl (v := S (271 + (k - 1))) (congrArg S (by omega)) ?_
  refine lv_lmul hx hb d_M_fromLeft_32 ?_
  refine lv_ladd hx hb d_M_fromLeft_33 ?_
  refine lv_aload_n hx hb d_M_fromLeft_34 rfl (lv_at hl 0 rfl) ?_
  refine lv_iload_n hx hb d_M_fromLeft_35 rfl (lv_at hl 1 rfl) ?_
  refine lv_iconst (v := 1) hx hb d_M_fromLeft_36 (by decide) ?_
  refine q_isub (v := nI (k - 1)) hx hb d_M_fromLeft_37 (pk_sub (a := k) (b := 1) (by omega)) ?_
  refine cRV (As := [.int (nI (k - 1))]) (rest := [.long ((S (250 + (k - 1))) + ((S 245) * (S (271 + (k - 1)))))]) (q9 := 0) (ci := 8) K_M_rubs x_1215 hx hb hml hown hts hE hV hS (c_M_rubs l D ct st am th bu he S (k - 1) (by omega)) hP rfl hP rfl rfl hl.1 rfl (Nat.le_of_ble_eq_true rfl) d_M_fromLeft_38 (Nat.le_of_ble_eq_true rfl) (Nat.le_of_ble_eq_true rfl) ⟨Nat.zero_le _, Nat.zero_le _⟩ ?_
  refine lv_lsub hx hb d_M_fromLeft_41 ?_
  exact rR_l hx hb hr hlk d_M_fromLeft_42 (rfl)
set_option maxHeartbeats 4000000 in
set_option maxRecDepth 100000 in
theorem c_M_fromRight (l : Launch) (D : va_G) (ct : Nat → ClassId) (st : Nat → Nat) (am : Nat → Nat) (th : Int32) (bu : Int64) (he : Int64) (S : Nat → Int64) (k : Nat) (hk : k < 20) : Met l y_M_fromRight (wsy y_M_fromRight b_M_fromRight 2 (some .long)) (k2_rm 2 42) (PcR D ct st [.ref (am 0), .int (nI k)] [((am 0), .inr (8, [.int th, .ref (am 1), .ref (am 2), .ref (am 3), .ref (am 4), .ref (am 5), .long bu, .long he, .ref (am 6), .ref (am 7)])), ((am 1), .inl (ct 1, 334, .inr (.inl S)))]) (k2_QcV (.long (p_r (pH S) (pF S) (S 245) (S 246) k))) 0 0 (fun _ => False) := by
  refine enterR (by decide) (Nat.le_of_ble_eq_true rfl) ?_
  intro p e s m args below meth c ls hx hb hr hml hown hts hlk hP hE hV hS hl
  have hl : lv_has ls 2 [(0, .ref (am 0)), (1, .int (nI k))] := hl
  refine lv_aload_n hx hb d_M_fromRight_0 rfl (lv_at hl 0 rfl) ?_
  refine q_get 0 1 i_M rfl hx hb hts hown hE hP rfl (by decide) x_937 rfl d_M_fromRight_1 ?_
  refine lv_sipush (v := 250) hx hb d_M_fromRight_4 (by decide) ?_
  refine lv_iload_n hx hb d_M_fromRight_7 rfl (lv_at hl 1 rfl) ?_
  refine q_iadd (v := nI (250 + k)) hx hb d_M_fromRight_8 (nI_add 250 k) ?_
  refine lv_iconst (v := 1) hx hb d_M_fromRight_9 (by decide) ?_
  refine q_iadd (v := nI ((250 + k) + 1)) hx hb d_M_fromRight_10 (nI_add (250 + k) 1) ?_
  refine q_lald (k := (250 + k) + 1) 1 hx hb hE hP rfl rfl (by omega) (by decide) d_M_fromRight_11 ?_
  refine lv_aload_n hx hb d_M_fromRight_12 rfl (lv_at hl 0 rfl) ?_
  refine q_get 0 1 i_M rfl hx hb hts hown hE hP rfl (by decide) x_937 rfl d_M_fromRight_13 ?_
  refine lv_sipush (v := 245) hx hb d_M_fromRight_16 (by decide) ?_
  refine q_lald (k := 245) 1 hx hb hE hP rfl rfl (by omega) (by decide) d_M_fromRight_19 ?_
  refine lv_aload_n hx hb d_M_fromRight_20 rfl (lv_at hl 0 rfl) ?_
  refine q_get 0 1 i_M rfl hx hb hts hown hE hP rfl (by decide) x_937 rfl d_M_fromRight_21 ?_
  refine lv_sipush (v := 271) hx hb d_M_fromRight_24 (by decide) ?_
  refine lv_iload_n hx hb d_M_fromRight_27 rfl (lv_at hl 1 rfl) ?_
  refine q_iadd (v := nI (271 + k)) hx hb d_M_fromRight_28 (nI_add 271 k) ?_
  refine lv_iconst (v := 1) hx hb d_M_fromRight_29 (by decide) ?_
  refine q_iadd (v := nI ((271 + k) + 1)) hx hb d_M_fromRight_30 (nI_add (271 + k) 1) ?_
  refine q_lald (k := (271 + k) + 1) 1 hx hb hE hP rfl rfl (by omega) (by decide) d_M_fromRight_31 ?_
  refine lv_lmul hx hb d_M_fromRight_32 ?_
  refine lv_lsub hx hb d_M_fromRight_33 ?_
  refine lv_aload_n hx hb d_M_fromRight_34 rfl (lv_at hl 0 rfl) ?_
  refine lv_iload_n hx hb d_M_fromRight_35 rfl (lv_at hl 1 rfl) ?_
  refine lv_iconst (v := 1) hx hb d_M_fromRight_36 (by decide) ?_
  refine q_iadd (v := nI (k + 1)) hx hb d_M_fromRight_37 (nI_add k 1) ?_
  refine cRV (As := [.int (nI (k + 1))]) (rest := [.long ((S ((250 + k) + 1)) - ((S 245) * (S ((271 + k) + 1))))]) (q9 := 0) (ci := 8) K_M_rubs x_1215 hx hb hml hown hts hE hV hS (c_M_rubs l D ct st am th bu he S (k + 1) (by omega)) hP rfl hP rfl rfl hl.1 rfl (Nat.le_of_ble_eq_true rfl) d_M_fromRight_38 (Nat.le_of_ble_eq_true rfl) (Nat.le_of_ble_eq_true rfl) ⟨Nat.zero_le _, Nat.zero_le _⟩ ?_
  refine lv_ladd hx hb d_M_fromRight_41 ?_
  exact rR_l hx hb hr hlk d_M_fromRight_42 (rfl)
set_option maxHeartbeats 4000000 in
set_option maxRecDepth 100000 in
theorem c_M_finds (l : Launch) (D : va_G) (ct : Nat → ClassId) (st : Nat → Nat) (am : Nat → Nat) (th : Int32) (bu : Int64) (he : Int64) (S : Nat → Int64) (Nd : Nat → Int64) (la : Nat) (b : Nat) (r : Nat) (z : Nat) (src : Nat) (op : Nat) (k : Nat) (hPS : PS S la b r z src op) (hk : k ≤ la) (sz : Nat) : Met l y_M_finds (wsy y_M_finds b_M_finds 16 (none)) (rmW 3 0 0 63) (PcW D ct st [.ref (am 0), .int (nI k)] [((am 0), .inr (8, [.int th, .ref (am 1), .ref (am 2), .ref (am 3), .ref (am 4), .ref (am 5), .long bu, .long he, .ref (am 6), .ref (am 7)])), ((am 1), .inl (ct 1, 334, .inr (.inl S))), ((am 7), .inl (ct 1, 63, .inr (.inl Nd)))] sz) (QcW D [((am 0), .inr (8, [.int th, .ref (am 1), .ref (am 2), .ref (am 3), .ref (am 4), .ref (am 5), .long bu, .long he, .ref (am 6), .ref (am 7)])), ((am 1), .inl (ct 1, 334, .inr (.inl S))), ((am 7), .inl (ct 1, 63, .inr (.inl Nd)))] sz (fun v W1 => ∃ (nodes1 : Nat → Int64), v = none ∧ W1 = [((am 0), .inr (8, [.int th, .ref (am 1), .ref (am 2), .ref (am 3), .ref (am 4), .ref (am 5), .long bu, .long he, .ref (am 6), .ref (am 7)])), ((am 1), .inl (ct 1, 334, .inr (.inl S))), ((am 7), .inl (ct 1, 63, .inr (.inl nodes1)))] ∧ ((nodes1 k = p_nh (pH S) (pF S) (pC S) (S 245) (S 246) (S 247) (S 248) (S 249) la k ∧ nodes1 (21 + k) = p_nf (pH S) (pF S) (pC S) (S 245) (S 246) (S 247) (S 248) (S 249) la k ∧ nodes1 (42 + k) = p_nc (pH S) (pF S) (pC S) (S 245) (S 246) (S 247) (S 248) (S 249) la k) ∧ ∀ j, j ≠ k → j ≠ 21 + k → j ≠ 42 + k → nodes1 j = Nd j))) 0 0 (va_A [((am 0), .inr (8, [.int th, .ref (am 1), .ref (am 2), .ref (am 3), .ref (am 4), .ref (am 5), .long bu, .long he, .ref (am 6), .ref (am 7)])), ((am 1), .inl (ct 1, 334, .inr (.inl S))), ((am 7), .inl (ct 1, 63, .inr (.inl Nd)))] sz) := by
  refine enterW (by decide) (Nat.le_of_ble_eq_true rfl) ?_
  intro p e s m args below meth c ls A hx hb hr hml hown hts hlk hin hsz hAe hP hD hA hE hV hS hl
  have hl : lv_has ls 16 [(0, .ref (am 0)), (1, .int (nI k))] := hl
  obtain ⟨hp1, ⟨hp2, hla1, hla⟩, ⟨hp3, hb1, hb5⟩, ⟨hp4, hr2⟩, ⟨hp5, hz1, hz5⟩, ⟨hp6, hsr⟩, ⟨hp7, hop⟩, hnd⟩ := id hPS
  have hbn : ¬ S 245 = 0 := by rw [hp3]; exact lNp hb1 (by omega)
  refine lv_aload_n hx hb d_M_finds_0 rfl (lv_at hl 0 rfl) ?_
  refine q_get 0 1 i_M rfl hx hb hts hown hE hP rfl (by decide) x_937 rfl d_M_finds_1 ?_
  refine lv_sipush (v := 244) hx hb d_M_finds_4 (by decide) ?_
  refine q_lald (k := 244) 1 hx hb hE hP rfl rfl (by omega) (by decide) d_M_finds_7 ?_
  refine q_topl (v := lN la) (hp2) ?_
  refine lv_l2i (v := nI la) hx hb d_M_finds_8 (lN_i _) ?_
  refine lv_istore_n (lv' := [(2, .int (nI la)), (0, .ref (am 0)), (1, .int (nI k))]) hx hb d_M_finds_9 rfl hl (by decide) rfl (fun ls hl => ?_)
  refine lv_iload_n hx hb d_M_finds_10 rfl (lv_at hl 2 rfl) ?_
  refine q_if_ne_n (a := k) (tgt := 67) hx hb d_M_finds_11 (by decide) rfl (by omega) (fun h_11 => ?_) (fun h_11 => ?_)
  · have hk0 : ¬ k = 0 := h_11
    refine lv_aload_n hx hb d_M_finds_67 rfl (lv_at hl 1 rfl) ?_
    refine lv_iload_n hx hb d_M_finds_68 rfl (lv_at hl 2 rfl) ?_
    refine cRV (As := [.int (nI k)]) (rest := []) (q9 := 0) (ci := 8) K_M_fromLeft x_1219 hx hb hml hown hts hE hV hS (c_M_fromLeft l D ct st am th bu he S k (by omega)) (hP.sub (ws' := [((am 0), .inr (8, [.int th, .ref (am 1), .ref (am 2), .ref (am 3), .ref (am 4), .ref (am 5), .long bu, .long he, .ref (am 6), .ref (am 7)])), ((am 1), .inl (ct 1, 334, .inr (.inl S)))]) [0, 1] rfl) rfl hP rfl rfl hl.1 rfl (Nat.le_of_ble_eq_true rfl) d_M_finds_69 (Nat.le_of_ble_eq_true rfl) (Nat.le_of_ble_eq_true rfl) ⟨Nat.le_of_ble_eq_true rfl, Nat.le_of_ble_eq_true rfl⟩ ?_
    refine lv_lstore_n (lv' := [(3, .long (p_l (pH S) (pF S) (S 245) (S 246) k)), (2, .int (nI la)), (0, .ref (am 0)), (1, .int (nI k))]) hx hb d_M_finds_72 rfl hl (by decide) rfl (fun ls hl => ?_)
    refine lv_iload_n hx hb d_M_finds_73 rfl (lv_at hl 3 rfl) ?_
    refine lv_iload_n hx hb d_M_finds_74 rfl (lv_at hl 1 rfl) ?_
    have join_87 : ∀ (dd : Int64) (hdd : dd = p_d (pH S) (pF S) (S 245) (S 246) la k) (H : Heap) (locs : List Loc) (ls : Array Slot), va_P D classes [((am 0), .inr (8, [.int th, .ref (am 1), .ref (am 2), .ref (am 3), .ref (am 4), .ref (am 5), .long bu, .long he, .ref (am 6), .ref (am 7)])), ((am 1), .inl (ct 1, 334, .inr (.inl S))), ((am 7), .inl (ct 1, 63, .inr (.inl Nd)))] H → va_D A [((am 0), .inr (8, [.int th, .ref (am 1), .ref (am 2), .ref (am 3), .ref (am 4), .ref (am 5), .long bu, .long he, .ref (am 6), .ref (am 7)])), ((am 1), .inl (ct 1, 334, .inr (.inl S))), ((am 7), .inl (ct 1, 63, .inr (.inl Nd)))] → va_S A s.heap H locs → lv_has ls 16 [(0, .ref (am 0)), (1, .int (nI k)), (2, .int (nI la)), (3, .long (p_l (pH S) (pF S) (S 245) (S 246) k))] → W p l e (rmW 3 0 0 63) s m args below meth c H locs (0) (0) (MQ below (QcW D [((am 0), .inr (8, [.int th, .ref (am 1), .ref (am 2), .ref (am 3), .ref (am 4), .ref (am 5), .long bu, .long he, .ref (am 6), .ref (am 7)])), ((am 1), .inl (ct 1, 334, .inr (.inl S))), ((am 7), .inl (ct 1, 63, .inr (.inl Nd)))] sz (fun v W1 => ∃ (nodes1 : Nat → Int64), v = none ∧ W1 = [((am 0), .inr (8, [.int th, .ref (am 1), .ref (am 2), .ref (am 3), .ref (am 4), .ref (am 5), .long bu, .long he, .ref (am 6), .ref (am 7)])), ((am 1), .inl (ct 1, 334, .inr (.inl S))), ((am 7), .inl (ct 1, 63, .inr (.inl nodes1)))] ∧ ((nodes1 k = p_nh (pH S) (pF S) (pC S) (S 245) (S 246) (S 247) (S 248) (S 249) la k ∧ nodes1 (21 + k) = p_nf (pH S) (pF S) (pC S) (S 245) (S 246) (S 247) (S 248) (S 249) la k ∧ nodes1 (42 + k) = p_nc (pH S) (pF S) (pC S) (S 245) (S 246) (S 247) (S 248) (S 249) la k) ∧ ∀ j, j ≠ k → j ≠ 21 + k → j ≠ 42 + k → nodes1 j = Nd j))) args s 0 0 A) (F0 m 87 ls [.long dd]) := by
      intro dd hdd H locs ls hP hD hS hl
      refine lv_lstore (lv' := [(5, .long dd), (0, .ref (am 0)), (1, .int (nI k)), (2, .int (nI la)), (3, .long (p_l (pH S) (pF S) (S 245) (S 246) k))]) hx hb d_M_finds_87 hl (by decide) rfl (fun ls hl => ?_)
      refine lv_iload_n hx hb d_M_finds_89 rfl (lv_at hl 2 rfl) ?_
      refine lv_iload_n hx hb d_M_finds_90 rfl (lv_at hl 3 rfl) ?_
      have join_165 : ∀ (ff : Int64) (hff : ff = p_fl (pH S) (pF S) (S 245) (S 246) (S 247) (S 249) la k) (H : Heap) (locs : List Loc) (ls : Array Slot), va_P D classes [((am 0), .inr (8, [.int th, .ref (am 1), .ref (am 2), .ref (am 3), .ref (am 4), .ref (am 5), .long bu, .long he, .ref (am 6), .ref (am 7)])), ((am 1), .inl (ct 1, 334, .inr (.inl S))), ((am 7), .inl (ct 1, 63, .inr (.inl Nd)))] H → va_D A [((am 0), .inr (8, [.int th, .ref (am 1), .ref (am 2), .ref (am 3), .ref (am 4), .ref (am 5), .long bu, .long he, .ref (am 6), .ref (am 7)])), ((am 1), .inl (ct 1, 334, .inr (.inl S))), ((am 7), .inl (ct 1, 63, .inr (.inl Nd)))] → va_S A s.heap H locs → lv_has ls 16 [(0, .ref (am 0)), (1, .int (nI k)), (2, .int (nI la)), (3, .long (p_l (pH S) (pF S) (S 245) (S 246) k)), (5, .long dd)] → W p l e (rmW 3 0 0 63) s m args below meth c H locs (0) (0) (MQ below (QcW D [((am 0), .inr (8, [.int th, .ref (am 1), .ref (am 2), .ref (am 3), .ref (am 4), .ref (am 5), .long bu, .long he, .ref (am 6), .ref (am 7)])), ((am 1), .inl (ct 1, 334, .inr (.inl S))), ((am 7), .inl (ct 1, 63, .inr (.inl Nd)))] sz (fun v W1 => ∃ (nodes1 : Nat → Int64), v = none ∧ W1 = [((am 0), .inr (8, [.int th, .ref (am 1), .ref (am 2), .ref (am 3), .ref (am 4), .ref (am 5), .long bu, .long he, .ref (am 6), .ref (am 7)])), ((am 1), .inl (ct 1, 334, .inr (.inl S))), ((am 7), .inl (ct 1, 63, .inr (.inl nodes1)))] ∧ ((nodes1 k = p_nh (pH S) (pF S) (pC S) (S 245) (S 246) (S 247) (S 248) (S 249) la k ∧ nodes1 (21 + k) = p_nf (pH S) (pF S) (pC S) (S 245) (S 246) (S 247) (S 248) (S 249) la k ∧ nodes1 (42 + k) = p_nc (pH S) (pF S) (pC S) (S 245) (S 246) (S 247) (S 248) (S 249) la k) ∧ ∀ j, j ≠ k → j ≠ 21 + k → j ≠ 42 + k → nodes1 j = Nd j))) args s 0 0 A) (F0 m 165 ls [.long ff]) := by
        intro ff hff H locs ls hP hD hS hl
        refine lv_lstore (lv' := [(7, .long ff), (0, .ref (am 0)), (1, .int (nI k)), (2, .int (nI la)), (3, .long (p_l (pH S) (pF S) (S 245) (S 246) k)), (5, .long dd)]) hx hb d_M_finds_165 hl (by decide) rfl (fun ls hl => ?_)
        refine lv_iload_n hx hb d_M_finds_167 rfl (lv_at hl 2 rfl) ?_
        refine lv_iload_n hx hb d_M_finds_168 rfl (lv_at hl 3 rfl) ?_
        have join_198 : ∀ (hh : Int64) (hhh : hh = p_hd (pH S) (pF S) (S 245) (S 246) (S 247) (S 249) la k) (H : Heap) (locs : List Loc) (ls : Array Slot), va_P D classes [((am 0), .inr (8, [.int th, .ref (am 1), .ref (am 2), .ref (am 3), .ref (am 4), .ref (am 5), .long bu, .long he, .ref (am 6), .ref (am 7)])), ((am 1), .inl (ct 1, 334, .inr (.inl S))), ((am 7), .inl (ct 1, 63, .inr (.inl Nd)))] H → va_D A [((am 0), .inr (8, [.int th, .ref (am 1), .ref (am 2), .ref (am 3), .ref (am 4), .ref (am 5), .long bu, .long he, .ref (am 6), .ref (am 7)])), ((am 1), .inl (ct 1, 334, .inr (.inl S))), ((am 7), .inl (ct 1, 63, .inr (.inl Nd)))] → va_S A s.heap H locs → lv_has ls 16 [(0, .ref (am 0)), (1, .int (nI k)), (2, .int (nI la)), (3, .long (p_l (pH S) (pF S) (S 245) (S 246) k)), (5, .long dd), (7, .long ff)] → W p l e (rmW 3 0 0 63) s m args below meth c H locs (0) (0) (MQ below (QcW D [((am 0), .inr (8, [.int th, .ref (am 1), .ref (am 2), .ref (am 3), .ref (am 4), .ref (am 5), .long bu, .long he, .ref (am 6), .ref (am 7)])), ((am 1), .inl (ct 1, 334, .inr (.inl S))), ((am 7), .inl (ct 1, 63, .inr (.inl Nd)))] sz (fun v W1 => ∃ (nodes1 : Nat → Int64), v = none ∧ W1 = [((am 0), .inr (8, [.int th, .ref (am 1), .ref (am 2), .ref (am 3), .ref (am 4), .ref (am 5), .long bu, .long he, .ref (am 6), .ref (am 7)])), ((am 1), .inl (ct 1, 334, .inr (.inl S))), ((am 7), .inl (ct 1, 63, .inr (.inl nodes1)))] ∧ ((nodes1 k = p_nh (pH S) (pF S) (pC S) (S 245) (S 246) (S 247) (S 248) (S 249) la k ∧ nodes1 (21 + k) = p_nf (pH S) (pF S) (pC S) (S 245) (S 246) (S 247) (S 248) (S 249) la k ∧ nodes1 (42 + k) = p_nc (pH S) (pF S) (pC S) (S 245) (S 246) (S 247) (S 248) (S 249) la k) ∧ ∀ j, j ≠ k → j ≠ 21 + k → j ≠ 42 + k → nodes1 j = Nd j))) args s 0 0 A) (F0 m 198 ls [.long hh]) := by
          intro hh hhh H locs ls hP hD hS hl
          refine lv_lstore (lv' := [(9, .long hh), (0, .ref (am 0)), (1, .int (nI k)), (2, .int (nI la)), (3, .long (p_l (pH S) (pF S) (S 245) (S 246) k)), (5, .long dd), (7, .long ff)]) hx hb d_M_finds_198 hl (by decide) rfl (fun ls hl => ?_)
          refine lv_iload_n hx hb d_M_finds_200 rfl (lv_at hl 2 rfl) ?_
          refine lv_iload_n hx hb d_M_finds_201 rfl (lv_at hl 3 rfl) ?_
          have join_224 : ∀ (go : Int64) (hgo : go = p_go (pH S) (pF S) (S 245) (S 246) la k) (H : Heap) (locs : List Loc) (ls : Array Slot), va_P D classes [((am 0), .inr (8, [.int th, .ref (am 1), .ref (am 2), .ref (am 3), .ref (am 4), .ref (am 5), .long bu, .long he, .ref (am 6), .ref (am 7)])), ((am 1), .inl (ct 1, 334, .inr (.inl S))), ((am 7), .inl (ct 1, 63, .inr (.inl Nd)))] H → va_D A [((am 0), .inr (8, [.int th, .ref (am 1), .ref (am 2), .ref (am 3), .ref (am 4), .ref (am 5), .long bu, .long he, .ref (am 6), .ref (am 7)])), ((am 1), .inl (ct 1, 334, .inr (.inl S))), ((am 7), .inl (ct 1, 63, .inr (.inl Nd)))] → va_S A s.heap H locs → lv_has ls 16 [(0, .ref (am 0)), (1, .int (nI k)), (2, .int (nI la)), (3, .long (p_l (pH S) (pF S) (S 245) (S 246) k)), (5, .long dd), (7, .long ff), (9, .long hh)] → W p l e (rmW 3 0 0 63) s m args below meth c H locs (0) (0) (MQ below (QcW D [((am 0), .inr (8, [.int th, .ref (am 1), .ref (am 2), .ref (am 3), .ref (am 4), .ref (am 5), .long bu, .long he, .ref (am 6), .ref (am 7)])), ((am 1), .inl (ct 1, 334, .inr (.inl S))), ((am 7), .inl (ct 1, 63, .inr (.inl Nd)))] sz (fun v W1 => ∃ (nodes1 : Nat → Int64), v = none ∧ W1 = [((am 0), .inr (8, [.int th, .ref (am 1), .ref (am 2), .ref (am 3), .ref (am 4), .ref (am 5), .long bu, .long he, .ref (am 6), .ref (am 7)])), ((am 1), .inl (ct 1, 334, .inr (.inl S))), ((am 7), .inl (ct 1, 63, .inr (.inl nodes1)))] ∧ ((nodes1 k = p_nh (pH S) (pF S) (pC S) (S 245) (S 246) (S 247) (S 248) (S 249) la k ∧ nodes1 (21 + k) = p_nf (pH S) (pF S) (pC S) (S 245) (S 246) (S 247) (S 248) (S 249) la k ∧ nodes1 (42 + k) = p_nc (pH S) (pF S) (pC S) (S 245) (S 246) (S 247) (S 248) (S 249) la k) ∧ ∀ j, j ≠ k → j ≠ 21 + k → j ≠ 42 + k → nodes1 j = Nd j))) args s 0 0 A) (F0 m 224 ls [.long go]) := by
            intro go hgo H locs ls hP hD hS hl
            refine lv_lstore (lv' := [(11, .long go), (0, .ref (am 0)), (1, .int (nI k)), (2, .int (nI la)), (3, .long (p_l (pH S) (pF S) (S 245) (S 246) k)), (5, .long dd), (7, .long ff), (9, .long hh)]) hx hb d_M_finds_224 hl (by decide) rfl (fun ls hl => ?_)
            refine lv_aload_n hx hb d_M_finds_226 rfl (lv_at hl 1 rfl) ?_
            refine q_get 0 1 i_M rfl hx hb hts hown hE hP rfl (by decide) x_937 rfl d_M_finds_227 ?_
            refine lv_sipush (v := 292) hx hb d_M_finds_230 (by decide) ?_
            refine lv_iload_n hx hb d_M_finds_233 rfl (lv_at hl 2 rfl) ?_
            refine q_iadd (v := nI (292 + k)) hx hb d_M_finds_234 (nI_add 292 k) ?_
            refine q_lald (k := 292 + k) 1 hx hb hE hP rfl rfl (by omega) (by decide) d_M_finds_235 ?_
            refine lv_lconst (v := 0) hx hb d_M_finds_236 (by decide) ?_
            refine W.lcmp hx hb d_M_finds_237 ?_
            have join_282 : ∀ (cv : Int64) (hcv : cv = p_cv (pH S) (pF S) (pC S) (S 245) (S 246) (S 247) (S 249) la k) (H : Heap) (locs : List Loc) (ls : Array Slot), va_P D classes [((am 0), .inr (8, [.int th, .ref (am 1), .ref (am 2), .ref (am 3), .ref (am 4), .ref (am 5), .long bu, .long he, .ref (am 6), .ref (am 7)])), ((am 1), .inl (ct 1, 334, .inr (.inl S))), ((am 7), .inl (ct 1, 63, .inr (.inl Nd)))] H → va_D A [((am 0), .inr (8, [.int th, .ref (am 1), .ref (am 2), .ref (am 3), .ref (am 4), .ref (am 5), .long bu, .long he, .ref (am 6), .ref (am 7)])), ((am 1), .inl (ct 1, 334, .inr (.inl S))), ((am 7), .inl (ct 1, 63, .inr (.inl Nd)))] → va_S A s.heap H locs → lv_has ls 16 [(0, .ref (am 0)), (1, .int (nI k)), (2, .int (nI la)), (3, .long (p_l (pH S) (pF S) (S 245) (S 246) k)), (5, .long dd), (7, .long ff), (9, .long hh), (11, .long go)] → W p l e (rmW 3 0 0 63) s m args below meth c H locs (0) (0) (MQ below (QcW D [((am 0), .inr (8, [.int th, .ref (am 1), .ref (am 2), .ref (am 3), .ref (am 4), .ref (am 5), .long bu, .long he, .ref (am 6), .ref (am 7)])), ((am 1), .inl (ct 1, 334, .inr (.inl S))), ((am 7), .inl (ct 1, 63, .inr (.inl Nd)))] sz (fun v W1 => ∃ (nodes1 : Nat → Int64), v = none ∧ W1 = [((am 0), .inr (8, [.int th, .ref (am 1), .ref (am 2), .ref (am 3), .ref (am 4), .ref (am 5), .long bu, .long he, .ref (am 6), .ref (am 7)])), ((am 1), .inl (ct 1, 334, .inr (.inl S))), ((am 7), .inl (ct 1, 63, .inr (.inl nodes1)))] ∧ ((nodes1 k = p_nh (pH S) (pF S) (pC S) (S 245) (S 246) (S 247) (S 248) (S 249) la k ∧ nodes1 (21 + k) = p_nf (pH S) (pF S) (pC S) (S 245) (S 246) (S 247) (S 248) (S 249) la k ∧ nodes1 (42 + k) = p_nc (pH S) (pF S) (pC S) (S 245) (S 246) (S 247) (S 248) (S 249) la k) ∧ ∀ j, j ≠ k → j ≠ 21 + k → j ≠ 42 + k → nodes1 j = Nd j))) args s 0 0 A) (F0 m 282 ls [.long cv]) := by
              intro cv hcv H locs ls hP hD hS hl
              refine lv_lstore (lv' := [(13, .long cv), (0, .ref (am 0)), (1, .int (nI k)), (2, .int (nI la)), (3, .long (p_l (pH S) (pF S) (S 245) (S 246) k)), (5, .long dd), (7, .long ff), (9, .long hh), (11, .long go)]) hx hb d_M_finds_282 hl (by decide) rfl (fun ls hl => ?_)
              refine lv_lload hx hb d_M_finds_284 (lv_at hl 0 rfl) ?_
              refine lv_lconst (v := 0) hx hb d_M_finds_286 (by decide) ?_
              refine W.lcmp hx hb d_M_finds_287 ?_
              have join_296 : ∀   (H : Heap) (locs : List Loc) (ls : Array Slot), va_P D classes [((am 0), .inr (8, [.int th, .ref (am 1), .ref (am 2), .ref (am 3), .ref (am 4), .ref (am 5), .long bu, .long he, .ref (am 6), .ref (am 7)])), ((am 1), .inl (ct 1, 334, .inr (.inl S))), ((am 7), .inl (ct 1, 63, .inr (.inl Nd)))] H → va_D A [((am 0), .inr (8, [.int th, .ref (am 1), .ref (am 2), .ref (am 3), .ref (am 4), .ref (am 5), .long bu, .long he, .ref (am 6), .ref (am 7)])), ((am 1), .inl (ct 1, 334, .inr (.inl S))), ((am 7), .inl (ct 1, 63, .inr (.inl Nd)))] → va_S A s.heap H locs → lv_has ls 16 [(0, .ref (am 0)), (1, .int (nI k)), (2, .int (nI la)), (3, .long (p_l (pH S) (pF S) (S 245) (S 246) k)), (5, .long dd), (7, .long ff), (9, .long hh), (11, .long go), (13, .long cv)] → W p l e (rmW 3 0 0 63) s m args below meth c H locs (0) (0) (MQ below (QcW D [((am 0), .inr (8, [.int th, .ref (am 1), .ref (am 2), .ref (am 3), .ref (am 4), .ref (am 5), .long bu, .long he, .ref (am 6), .ref (am 7)])), ((am 1), .inl (ct 1, 334, .inr (.inl S))), ((am 7), .inl (ct 1, 63, .inr (.inl Nd)))] sz (fun v W1 => ∃ (nodes1 : Nat → Int64), v = none ∧ W1 = [((am 0), .inr (8, [.int th, .ref (am 1), .ref (am 2), .ref (am 3), .ref (am 4), .ref (am 5), .long bu, .long he, .ref (am 6), .ref (am 7)])), ((am 1), .inl (ct 1, 334, .inr (.inl S))), ((am 7), .inl (ct 1, 63, .inr (.inl nodes1)))] ∧ ((nodes1 k = p_nh (pH S) (pF S) (pC S) (S 245) (S 246) (S 247) (S 248) (S 249) la k ∧ nodes1 (21 + k) = p_nf (pH S) (pF S) (pC S) (S 245) (S 246) (S 247) (S 248) (S 249) la k ∧ nodes1 (42 + k) = p_nc (pH S) (pF S) (pC S) (S 245) (S 246) (S 247) (S 248) (S 249) la k) ∧ ∀ j, j ≠ k → j ≠ 21 + k → j ≠ 42 + k → nodes1 j = Nd j))) args s 0 0 A) (F0 m 296 ls [.int (bI (0 < p_cv (pH S) (pF S) (pC S) (S 245) (S 246) (S 247) (S 249) la k))]) := by
                intro H locs ls hP hD hS hl
                refine lv_istore (lv' := [(15, .int (bI (0 < p_cv (pH S) (pF S) (pC S) (S 245) (S 246) (S 247) (S 249) la k))), (0, .ref (am 0)), (1, .int (nI k)), (2, .int (nI la)), (3, .long (p_l (pH S) (pF S) (S 245) (S 246) k)), (5, .long dd), (7, .long ff), (9, .long hh), (11, .long go), (13, .long cv)]) hx hb d_M_finds_296 hl (by decide) rfl (fun ls hl => ?_)
                refine lv_aload_n hx hb d_M_finds_298 rfl (lv_at hl 1 rfl) ?_
                refine q_get 0 9 i_M rfl hx hb hts hown hE hP rfl (by decide) x_945 rfl d_M_finds_299 ?_
                refine lv_iload_n hx hb d_M_finds_302 rfl (lv_at hl 2 rfl) ?_
                refine lv_iload hx hb d_M_finds_303 (lv_at hl 0 rfl) ?_
                have join_316 : ∀ (v1 : Int64) (hv1 : v1 = p_nh (pH S) (pF S) (pC S) (S 245) (S 246) (S 247) (S 248) (S 249) la k) (H : Heap) (locs : List Loc) (ls : Array Slot), va_P D classes [((am 0), .inr (8, [.int th, .ref (am 1), .ref (am 2), .ref (am 3), .ref (am 4), .ref (am 5), .long bu, .long he, .ref (am 6), .ref (am 7)])), ((am 1), .inl (ct 1, 334, .inr (.inl S))), ((am 7), .inl (ct 1, 63, .inr (.inl Nd)))] H → va_D A [((am 0), .inr (8, [.int th, .ref (am 1), .ref (am 2), .ref (am 3), .ref (am 4), .ref (am 5), .long bu, .long he, .ref (am 6), .ref (am 7)])), ((am 1), .inl (ct 1, 334, .inr (.inl S))), ((am 7), .inl (ct 1, 63, .inr (.inl Nd)))] → va_S A s.heap H locs → lv_has ls 16 [(0, .ref (am 0)), (1, .int (nI k)), (2, .int (nI la)), (3, .long (p_l (pH S) (pF S) (S 245) (S 246) k)), (5, .long dd), (7, .long ff), (9, .long hh), (11, .long go), (13, .long cv), (15, .int (bI (0 < p_cv (pH S) (pF S) (pC S) (S 245) (S 246) (S 247) (S 249) la k)))] → W p l e (rmW 3 0 0 63) s m args below meth c H locs (0) (0) (MQ below (QcW D [((am 0), .inr (8, [.int th, .ref (am 1), .ref (am 2), .ref (am 3), .ref (am 4), .ref (am 5), .long bu, .long he, .ref (am 6), .ref (am 7)])), ((am 1), .inl (ct 1, 334, .inr (.inl S))), ((am 7), .inl (ct 1, 63, .inr (.inl Nd)))] sz (fun v W1 => ∃ (nodes1 : Nat → Int64), v = none ∧ W1 = [((am 0), .inr (8, [.int th, .ref (am 1), .ref (am 2), .ref (am 3), .ref (am 4), .ref (am 5), .long bu, .long he, .ref (am 6), .ref (am 7)])), ((am 1), .inl (ct 1, 334, .inr (.inl S))), ((am 7), .inl (ct 1, 63, .inr (.inl nodes1)))] ∧ ((nodes1 k = p_nh (pH S) (pF S) (pC S) (S 245) (S 246) (S 247) (S 248) (S 249) la k ∧ nodes1 (21 + k) = p_nf (pH S) (pF S) (pC S) (S 245) (S 246) (S 247) (S 248) (S 249) la k ∧ nodes1 (42 + k) = p_nc (pH S) (pF S) (pC S) (S 245) (S 246) (S 247) (S 248) (S 249) la k) ∧ ∀ j, j ≠ k → j ≠ 21 + k → j ≠ 42 + k → nodes1 j = Nd j))) args s 0 0 A) (F0 m 316 ls [.long v1, .int (nI k), .ref (am 7)]) := by
                  intro v1 hv1 H locs ls hP hD hS hl
                  obtain ⟨nodes_1, enodes_1⟩ : ∃ g9 : Nat → Int64, g9 = vp_updL Nd k v1 := ⟨_, rfl⟩
                  refine q_last (k := k) 2 (ws1 := [((am 0), .inr (8, [.int th, .ref (am 1), .ref (am 2), .ref (am 3), .ref (am 4), .ref (am 5), .long bu, .long he, .ref (am 6), .ref (am 7)])), ((am 1), .inl (ct 1, 334, .inr (.inl S))), ((am 7), .inl (ct 1, 63, .inr (.inl nodes_1)))]) enodes_1 hx hb hE hP hD hS rfl rfl (by omega) (by decide) rfl d_M_finds_316 (fun H locs hP hD hS => ?_)
                  refine lv_aload_n hx hb d_M_finds_317 rfl (lv_at hl 0 rfl) ?_
                  refine q_get 0 9 i_M rfl hx hb hts hown hE hP rfl (by decide) x_945 rfl d_M_finds_318 ?_
                  refine lv_bipush (v := 21) hx hb d_M_finds_321 (by decide) ?_
                  refine lv_iload_n hx hb d_M_finds_323 rfl (lv_at hl 1 rfl) ?_
                  refine q_iadd (v := nI (21 + k)) hx hb d_M_finds_324 (nI_add 21 k) ?_
                  refine lv_iload hx hb d_M_finds_325 (lv_at hl 9 rfl) ?_
                  have join_337 : ∀ (v2 : Int64) (hv2 : v2 = p_nf (pH S) (pF S) (pC S) (S 245) (S 246) (S 247) (S 248) (S 249) la k) (H : Heap) (locs : List Loc) (ls : Array Slot), va_P D classes [((am 0), .inr (8, [.int th, .ref (am 1), .ref (am 2), .ref (am 3), .ref (am 4), .ref (am 5), .long bu, .long he, .ref (am 6), .ref (am 7)])), ((am 1), .inl (ct 1, 334, .inr (.inl S))), ((am 7), .inl (ct 1, 63, .inr (.inl nodes_1)))] H → va_D A [((am 0), .inr (8, [.int th, .ref (am 1), .ref (am 2), .ref (am 3), .ref (am 4), .ref (am 5), .long bu, .long he, .ref (am 6), .ref (am 7)])), ((am 1), .inl (ct 1, 334, .inr (.inl S))), ((am 7), .inl (ct 1, 63, .inr (.inl nodes_1)))] → va_S A s.heap H locs → lv_has ls 16 [(0, .ref (am 0)), (1, .int (nI k)), (2, .int (nI la)), (3, .long (p_l (pH S) (pF S) (S 245) (S 246) k)), (5, .long dd), (7, .long ff), (9, .long hh), (11, .long go), (13, .long cv), (15, .int (bI (0 < p_cv (pH S) (pF S) (pC S) (S 245) (S 246) (S 247) (S 249) la k)))] → W p l e (rmW 3 0 0 63) s m args below meth c H locs (0) (0) (MQ below (QcW D [((am 0), .inr (8, [.int th, .ref (am 1), .ref (am 2), .ref (am 3), .ref (am 4), .ref (am 5), .long bu, .long he, .ref (am 6), .ref (am 7)])), ((am 1), .inl (ct 1, 334, .inr (.inl S))), ((am 7), .inl (ct 1, 63, .inr (.inl Nd)))] sz (fun v W1 => ∃ (nodes1 : Nat → Int64), v = none ∧ W1 = [((am 0), .inr (8, [.int th, .ref (am 1), .ref (am 2), .ref (am 3), .ref (am 4), .ref (am 5), .long bu, .long he, .ref (am 6), .ref (am 7)])), ((am 1), .inl (ct 1, 334, .inr (.inl S))), ((am 7), .inl (ct 1, 63, .inr (.inl nodes1)))] ∧ ((nodes1 k = p_nh (pH S) (pF S) (pC S) (S 245) (S 246) (S 247) (S 248) (S 249) la k ∧ nodes1 (21 + k) = p_nf (pH S) (pF S) (pC S) (S 245) (S 246) (S 247) (S 248) (S 249) la k ∧ nodes1 (42 + k) = p_nc (pH S) (pF S) (pC S) (S 245) (S 246) (S 247) (S 248) (S 249) la k) ∧ ∀ j, j ≠ k → j ≠ 21 + k → j ≠ 42 + k → nodes1 j = Nd j))) args s 0 0 A) (F0 m 337 ls [.long v2, .int (nI (21 + k)), .ref (am 7)]) := by
                    intro v2 hv2 H locs ls hP hD hS hl
                    obtain ⟨nodes_2, enodes_2⟩ : ∃ g9 : Nat → Int64, g9 = vp_updL nodes_1 (21 + k) v2 := ⟨_, rfl⟩
                    refine q_last (k := 21 + k) 2 (ws1 := [((am 0), .inr (8, [.int th, .ref (am 1), .ref (am 2), .ref (am 3), .ref (am 4), .ref (am 5), .long bu, .long he, .ref (am 6), .ref (am 7)])), ((am 1), .inl (ct 1, 334, .inr (.inl S))), ((am 7), .inl (ct 1, 63, .inr (.inl nodes_2)))]) enodes_2 hx hb hE hP hD hS rfl rfl (by omega) (by decide) rfl d_M_finds_337 (fun H locs hP hD hS => ?_)
                    refine lv_aload_n hx hb d_M_finds_338 rfl (lv_at hl 0 rfl) ?_
                    refine q_get 0 9 i_M rfl hx hb hts hown hE hP rfl (by decide) x_945 rfl d_M_finds_339 ?_
                    refine lv_bipush (v := 42) hx hb d_M_finds_342 (by decide) ?_
                    refine lv_iload_n hx hb d_M_finds_344 rfl (lv_at hl 1 rfl) ?_
                    refine q_iadd (v := nI (42 + k)) hx hb d_M_finds_345 (nI_add 42 k) ?_
                    refine lv_iload hx hb d_M_finds_346 (lv_at hl 9 rfl) ?_
                    have join_357 : ∀ (v3 : Int64) (hv3 : v3 = p_nc (pH S) (pF S) (pC S) (S 245) (S 246) (S 247) (S 248) (S 249) la k) (H : Heap) (locs : List Loc) (ls : Array Slot), va_P D classes [((am 0), .inr (8, [.int th, .ref (am 1), .ref (am 2), .ref (am 3), .ref (am 4), .ref (am 5), .long bu, .long he, .ref (am 6), .ref (am 7)])), ((am 1), .inl (ct 1, 334, .inr (.inl S))), ((am 7), .inl (ct 1, 63, .inr (.inl nodes_2)))] H → va_D A [((am 0), .inr (8, [.int th, .ref (am 1), .ref (am 2), .ref (am 3), .ref (am 4), .ref (am 5), .long bu, .long he, .ref (am 6), .ref (am 7)])), ((am 1), .inl (ct 1, 334, .inr (.inl S))), ((am 7), .inl (ct 1, 63, .inr (.inl nodes_2)))] → va_S A s.heap H locs → lv_has ls 16 [(0, .ref (am 0)), (1, .int (nI k)), (2, .int (nI la)), (3, .long (p_l (pH S) (pF S) (S 245) (S 246) k)), (5, .long dd), (7, .long ff), (9, .long hh), (11, .long go), (13, .long cv), (15, .int (bI (0 < p_cv (pH S) (pF S) (pC S) (S 245) (S 246) (S 247) (S 249) la k)))] → W p l e (rmW 3 0 0 63) s m args below meth c H locs (0) (0) (MQ below (QcW D [((am 0), .inr (8, [.int th, .ref (am 1), .ref (am 2), .ref (am 3), .ref (am 4), .ref (am 5), .long bu, .long he, .ref (am 6), .ref (am 7)])), ((am 1), .inl (ct 1, 334, .inr (.inl S))), ((am 7), .inl (ct 1, 63, .inr (.inl Nd)))] sz (fun v W1 => ∃ (nodes1 : Nat → Int64), v = none ∧ W1 = [((am 0), .inr (8, [.int th, .ref (am 1), .ref (am 2), .ref (am 3), .ref (am 4), .ref (am 5), .long bu, .long he, .ref (am 6), .ref (am 7)])), ((am 1), .inl (ct 1, 334, .inr (.inl S))), ((am 7), .inl (ct 1, 63, .inr (.inl nodes1)))] ∧ ((nodes1 k = p_nh (pH S) (pF S) (pC S) (S 245) (S 246) (S 247) (S 248) (S 249) la k ∧ nodes1 (21 + k) = p_nf (pH S) (pF S) (pC S) (S 245) (S 246) (S 247) (S 248) (S 249) la k ∧ nodes1 (42 + k) = p_nc (pH S) (pF S) (pC S) (S 245) (S 246) (S 247) (S 248) (S 249) la k) ∧ ∀ j, j ≠ k → j ≠ 21 + k → j ≠ 42 + k → nodes1 j = Nd j))) args s 0 0 A) (F0 m 357 ls [.long v3, .int (nI (42 + k)), .ref (am 7)]) := by
                      intro v3 hv3 H locs ls hP hD hS hl
                      obtain ⟨nodes_3, enodes_3⟩ : ∃ g9 : Nat → Int64, g9 = vp_updL nodes_2 (42 + k) v3 := ⟨_, rfl⟩
                      refine q_last (k := 42 + k) 2 (ws1 := [((am 0), .inr (8, [.int th, .ref (am 1), .ref (am 2), .ref (am 3), .ref (am 4), .ref (am 5), .long bu, .long he, .ref (am 6), .ref (am 7)])), ((am 1), .inl (ct 1, 334, .inr (.inl S))), ((am 7), .inl (ct 1, 63, .inr (.inl nodes_3)))]) enodes_3 hx hb hE hP hD hS rfl rfl (by omega) (by decide) rfl d_M_finds_357 (fun H locs hP hD hS => ?_)
                      exact rW_v hx hb hr hlk hAe hS hP hD (Nat.le_of_ble_eq_true rfl) (Nat.le_of_ble_eq_true rfl) d_M_finds_358 ⟨nodes_3, rfl, rfl, ⟨⟨by simp (disch := omega) only [enodes_3, enodes_2, enodes_1, pk_uLn, pk_uLs, pk_us, pk_un]; exact hv1, by simp (disch := omega) only [enodes_3, enodes_2, enodes_1, pk_uLn, pk_uLs, pk_us, pk_un]; exact hv2, by simp (disch := omega) only [enodes_3, enodes_2, enodes_1, pk_uLn, pk_uLs, pk_us, pk_un]; exact hv3⟩, fun j e1 e2 e3 => by simp (disch := omega) only [enodes_3, enodes_2, enodes_1, pk_uLn, pk_uLs, pk_us, pk_un]⟩⟩
                    refine q_ifeq_b (tgt := 356) hx hb d_M_finds_348 (by decide) (fun h_348 => ?_) (fun h_348 => ?_)
                    · refine lv_lconst (v := 0) hx hb d_M_finds_356 (by decide) ?_
                      exact join_357 0 (by unfold p_nc; rw [if_neg hk0]; first | rw [if_neg h_348] | rw [if_pos h_348, hcv]) _ _ _ hP hD hS (lv_sub hl [0, 1, 2, 3, 4, 5, 6, 7, 8, 9] rfl)
                    · refine lv_lload hx hb d_M_finds_351 (lv_at hl 8 rfl) ?_
                      refine lv_goto (tgt := 357) hx hb d_M_finds_353 (by decide) ?_
                      exact join_357 cv (by unfold p_nc; rw [if_neg hk0]; first | rw [if_neg h_348] | rw [if_pos h_348, hcv]) _ _ _ hP hD hS (lv_sub hl [0, 1, 2, 3, 4, 5, 6, 7, 8, 9] rfl)
                  refine q_ifeq_b (tgt := 335) hx hb d_M_finds_327 (by decide) (fun h_327 => ?_) (fun h_327 => ?_)
                  · refine lv_lload hx hb d_M_finds_335 (lv_at hl 5 rfl) ?_
                    exact join_337 ff (by unfold p_nf; rw [if_neg hk0]; first | rw [if_neg h_327, hff] | rw [if_pos h_327, hgo]) _ _ _ hP hD hS (lv_sub hl [0, 1, 2, 3, 4, 5, 6, 7, 8, 9] rfl)
                  · refine lv_lload hx hb d_M_finds_330 (lv_at hl 7 rfl) ?_
                    refine lv_goto (tgt := 337) hx hb d_M_finds_332 (by decide) ?_
                    exact join_337 go (by unfold p_nf; rw [if_neg hk0]; first | rw [if_neg h_327, hff] | rw [if_pos h_327, hgo]) _ _ _ hP hD hS (lv_sub hl [0, 1, 2, 3, 4, 5, 6, 7, 8, 9] rfl)
                refine q_ifeq_b (tgt := 314) hx hb d_M_finds_305 (by decide) (fun h_305 => ?_) (fun h_305 => ?_)
                · refine lv_lload hx hb d_M_finds_314 (lv_at hl 7 rfl) ?_
                  exact join_316 hh (by unfold p_nh; rw [if_neg hk0]; first | exact (if_neg h_305).symm.trans (by rw [hhh]) | exact (if_pos h_305).symm | rw [if_neg h_305, hhh]) _ _ _ hP hD hS (lv_sub hl [1, 2, 3, 4, 5, 6, 7, 8, 9, 0] rfl)
                · refine lv_ldc2 (v := (-100)) hx hb hown (hts _ (List.mem_cons_of_mem _ x_1190)) d_M_finds_308 ?_
                  refine lv_goto (tgt := 316) hx hb d_M_finds_311 (by decide) ?_
                  exact join_316 (-100) (by unfold p_nh; rw [if_neg hk0]; first | exact (if_neg h_305).symm.trans (by rw [hhh]) | exact (if_pos h_305).symm | rw [if_neg h_305, hhh]) _ _ _ hP hD hS (lv_sub hl [1, 2, 3, 4, 5, 6, 7, 8, 9, 0] rfl)
              refine q_cmp_le (tgt := 295) hx hb d_M_finds_288 (by decide) (fun h_288 => ?_) (fun h_288 => ?_)
              · refine lv_iconst (v := 0) hx hb d_M_finds_295 (by decide) ?_
                refine q_topi (v := bI (0 < p_cv (pH S) (pF S) (pC S) (S 245) (S 246) (S 247) (S 249) la k)) (by rw [hcv] at h_288; first | exact bI_0 (Int64.not_lt.mpr h_288) | exact bI_1 (Int64.not_le.mp h_288)) ?_
                exact join_296 _ _ _ hP hD hS (lv_sub hl [1, 2, 3, 4, 5, 6, 7, 8, 0] rfl)
              · refine lv_iconst (v := 1) hx hb d_M_finds_291 (by decide) ?_
                refine lv_goto (tgt := 296) hx hb d_M_finds_292 (by decide) ?_
                refine q_topi (v := bI (0 < p_cv (pH S) (pF S) (pC S) (S 245) (S 246) (S 247) (S 249) la k)) (by rw [hcv] at h_288; first | exact bI_0 (Int64.not_lt.mpr h_288) | exact bI_1 (Int64.not_le.mp h_288)) ?_
                exact join_296 _ _ _ hP hD hS (lv_sub hl [1, 2, 3, 4, 5, 6, 7, 8, 0] rfl)
            refine q_cmp_gt (tgt := 250) hx hb d_M_finds_238 (by decide) (fun h_238 => ?_) (fun h_238 => ?_)
            · refine lv_aload_n hx hb d_M_finds_250 rfl (lv_at hl 1 rfl) ?_
              refine q_get 0 1 i_M rfl hx hb hts hown hE hP rfl (by decide) x_937 rfl d_M_finds_251 ?_
              refine lv_sipush (v := 292) hx hb d_M_finds_254 (by decide) ?_
              refine lv_iload_n hx hb d_M_finds_257 rfl (lv_at hl 2 rfl) ?_
              refine q_iadd (v := nI (292 + k)) hx hb d_M_finds_258 (nI_add 292 k) ?_
              refine q_lald (k := 292 + k) 1 hx hb hE hP rfl rfl (by omega) (by decide) d_M_finds_259 ?_
              refine lv_lload hx hb d_M_finds_260 (lv_at hl 0 rfl) ?_
              refine lv_ladd hx hb d_M_finds_262 ?_
              refine lv_lload_n hx hb d_M_finds_263 rfl (lv_at hl 4 rfl) ?_
              refine lv_ldc2 (v := 100) hx hb hown (hts _ (List.mem_cons_of_mem _ x_1011)) d_M_finds_264 ?_
              refine lv_ladd hx hb d_M_finds_267 ?_
              refine lv_aload_n hx hb d_M_finds_268 rfl (lv_at hl 1 rfl) ?_
              refine q_get 0 1 i_M rfl hx hb hts hown hE hP rfl (by decide) x_937 rfl d_M_finds_269 ?_
              refine lv_sipush (v := 245) hx hb d_M_finds_272 (by decide) ?_
              refine q_lald (k := 245) 1 hx hb hE hP rfl rfl (by omega) (by decide) d_M_finds_275 ?_
              refine lv_ldiv hx hb d_M_finds_276 (hbn) ?_
              refine lv_lsub hx hb d_M_finds_277 ?_
              refine lv_goto (tgt := 282) hx hb d_M_finds_278 (by decide) ?_
              exact join_282 (((S (292 + k)) + go) - (((p_l (pH S) (pF S) (S 245) (S 246) k) + 100) / (S 245))) (by unfold p_cv; rw [← hhh, ← hgo]; first | exact (if_pos (Or.inl h_238)).symm | exact (if_pos (Or.inr (Int64.not_le.mp h_247))).symm | exact (if_neg (fun z => z.elim h_238 (Int64.not_lt.mpr h_247))).symm) _ _ _ hP hD hS (lv_sub hl [1, 2, 3, 4, 5, 6, 7, 0] rfl)
            · refine lv_lload hx hb d_M_finds_241 (lv_at hl 7 rfl) ?_
              refine lv_ldc2 (v := (-100)) hx hb hown (hts _ (List.mem_cons_of_mem _ x_1190)) d_M_finds_243 ?_
              refine W.lcmp hx hb d_M_finds_246 ?_
              refine q_cmp_ge (tgt := 281) hx hb d_M_finds_247 (by decide) (fun h_247 => ?_) (fun h_247 => ?_)
              · refine lv_lconst (v := 0) hx hb d_M_finds_281 (by decide) ?_
                exact join_282 0 (by unfold p_cv; rw [← hhh, ← hgo]; first | exact (if_pos (Or.inl h_238)).symm | exact (if_pos (Or.inr (Int64.not_le.mp h_247))).symm | exact (if_neg (fun z => z.elim h_238 (Int64.not_lt.mpr h_247))).symm) _ _ _ hP hD hS (lv_sub hl [1, 2, 3, 4, 5, 6, 7, 0] rfl)
              · refine lv_aload_n hx hb d_M_finds_250 rfl (lv_at hl 1 rfl) ?_
                refine q_get 0 1 i_M rfl hx hb hts hown hE hP rfl (by decide) x_937 rfl d_M_finds_251 ?_
                refine lv_sipush (v := 292) hx hb d_M_finds_254 (by decide) ?_
                refine lv_iload_n hx hb d_M_finds_257 rfl (lv_at hl 2 rfl) ?_
                refine q_iadd (v := nI (292 + k)) hx hb d_M_finds_258 (nI_add 292 k) ?_
                refine q_lald (k := 292 + k) 1 hx hb hE hP rfl rfl (by omega) (by decide) d_M_finds_259 ?_
                refine lv_lload hx hb d_M_finds_260 (lv_at hl 0 rfl) ?_
                refine lv_ladd hx hb d_M_finds_262 ?_
                refine lv_lload_n hx hb d_M_finds_263 rfl (lv_at hl 4 rfl) ?_
                refine lv_ldc2 (v := 100) hx hb hown (hts _ (List.mem_cons_of_mem _ x_1011)) d_M_finds_264 ?_
                refine lv_ladd hx hb d_M_finds_267 ?_
                refine lv_aload_n hx hb d_M_finds_268 rfl (lv_at hl 1 rfl) ?_
                refine q_get 0 1 i_M rfl hx hb hts hown hE hP rfl (by decide) x_937 rfl d_M_finds_269 ?_
                refine lv_sipush (v := 245) hx hb d_M_finds_272 (by decide) ?_
                refine q_lald (k := 245) 1 hx hb hE hP rfl rfl (by omega) (by decide) d_M_finds_275 ?_
                refine lv_ldiv hx hb d_M_finds_276 (hbn) ?_
                refine lv_lsub hx hb d_M_finds_277 ?_
                refine lv_goto (tgt := 282) hx hb d_M_finds_278 (by decide) ?_
                exact join_282 (((S (292 + k)) + go) - (((p_l (pH S) (pF S) (S 245) (S 246) k) + 100) / (S 245))) (by unfold p_cv; rw [← hhh, ← hgo]; first | exact (if_pos (Or.inl h_238)).symm | exact (if_pos (Or.inr (Int64.not_le.mp h_247))).symm | exact (if_neg (fun z => z.elim h_238 (Int64.not_lt.mpr h_247))).symm) _ _ _ hP hD hS (lv_sub hl [1, 2, 3, 4, 5, 6, 7, 0] rfl)
          refine q_icmp_ne_n (a := k) (b := la) (tgt := 209) hx hb d_M_finds_202 (by decide) rfl rfl (by omega) (by omega) (fun h_202 => ?_) (fun h_202 => ?_)
          · refine lv_ldc2 (v := (-100)) hx hb hown (hts _ (List.mem_cons_of_mem _ x_1190)) d_M_finds_209 ?_
            refine lv_lload hx hb d_M_finds_212 (lv_at hl 5 rfl) ?_
            refine lv_lsub hx hb d_M_finds_214 ?_
            refine lv_aload_n hx hb d_M_finds_215 rfl (lv_at hl 1 rfl) ?_
            refine q_get 0 1 i_M rfl hx hb hts hown hE hP rfl (by decide) x_937 rfl d_M_finds_216 ?_
            refine lv_sipush (v := 245) hx hb d_M_finds_219 (by decide) ?_
            refine q_lald (k := 245) 1 hx hb hE hP rfl rfl (by omega) (by decide) d_M_finds_222 ?_
            refine lv_ldiv hx hb d_M_finds_223 (hbn) ?_
            exact join_224 (((-100) - dd) / (S 245)) (by unfold p_go; first | exact (if_pos h_202).symm | exact ((if_neg h_202).trans (by rw [hdd])).symm) _ _ _ hP hD hS (lv_sub hl [1, 2, 3, 4, 5, 6, 0] rfl)
          · refine lv_lconst (v := 0) hx hb d_M_finds_205 (by decide) ?_
            refine lv_goto (tgt := 224) hx hb d_M_finds_206 (by decide) ?_
            exact join_224 0 (by unfold p_go; first | exact (if_pos h_202).symm | exact ((if_neg h_202).trans (by rw [hdd])).symm) _ _ _ hP hD hS (lv_sub hl [1, 2, 3, 4, 5, 6, 0] rfl)
        refine q_icmp_ge_n (a := k) (b := la) (tgt := 185) hx hb d_M_finds_169 (by decide) rfl rfl (by omega) (by omega) (fun h_169 => ?_) (fun h_169 => ?_)
        · refine lv_lload_n hx hb d_M_finds_185 rfl (lv_at hl 4 rfl) ?_
          refine lv_aload_n hx hb d_M_finds_186 rfl (lv_at hl 1 rfl) ?_
          refine q_get 0 1 i_M rfl hx hb hts hown hE hP rfl (by decide) x_937 rfl d_M_finds_187 ?_
          refine lv_sipush (v := 245) hx hb d_M_finds_190 (by decide) ?_
          refine q_lald (k := 245) 1 hx hb hE hP rfl rfl (by omega) (by decide) d_M_finds_193 ?_
          refine lv_lload hx hb d_M_finds_194 (lv_at hl 0 rfl) ?_
          refine lv_lmul hx hb d_M_finds_196 ?_
          refine lv_lsub hx hb d_M_finds_197 ?_
          exact join_198 ((p_l (pH S) (pF S) (S 245) (S 246) k) - ((S 245) * ff)) (by unfold p_hd; first | exact ((if_pos (by omega)).trans (by rw [hdd])).symm | exact ((if_neg (by omega)).trans (by rw [hff])).symm) _ _ _ hP hD hS (lv_sub hl [1, 2, 3, 4, 5, 0] rfl)
        · refine lv_lload_n hx hb d_M_finds_172 rfl (lv_at hl 4 rfl) ?_
          refine lv_lload hx hb d_M_finds_173 (lv_at hl 5 rfl) ?_
          refine lv_ladd hx hb d_M_finds_175 ?_
          refine lv_ldc2 (v := 2) hx hb hown (hts _ (List.mem_cons_of_mem _ x_976)) d_M_finds_176 ?_
          refine cRS (As := [.long ((p_l (pH S) (pF S) (S 245) (S 246) k) + dd), .long 2]) (rest := []) K_M_down x_1000 hx hb hml hown hts hE hV hS (c_M_down l D ct st ((p_l (pH S) (pF S) (S 245) (S 246) k) + dd) 2 (by decide)) (fun k q h => by simp at h) rfl hl.1 rfl (Nat.le_of_ble_eq_true rfl) d_M_finds_179 (Nat.le_of_ble_eq_true rfl) (Nat.le_of_ble_eq_true rfl) ⟨Nat.le_of_ble_eq_true rfl, Nat.le_of_ble_eq_true rfl⟩ ?_
          refine lv_goto (tgt := 198) hx hb d_M_finds_182 (by decide) ?_
          exact join_198 (fd ((p_l (pH S) (pF S) (S 245) (S 246) k) + dd) 2) (by unfold p_hd; first | exact ((if_pos (by omega)).trans (by rw [hdd])).symm | exact ((if_neg (by omega)).trans (by rw [hff])).symm) _ _ _ hP hD hS (lv_sub hl [1, 2, 3, 4, 5, 0] rfl)
      refine q_icmp_ge_n (a := k) (b := la) (tgt := 114) hx hb d_M_finds_91 (by decide) rfl rfl (by omega) (by omega) (fun h_91 => ?_) (fun h_91 => ?_)
      · refine lv_lload_n hx hb d_M_finds_114 rfl (lv_at hl 4 rfl) ?_
        refine lv_lconst (v := 0) hx hb d_M_finds_115 (by decide) ?_
        refine W.lcmp hx hb d_M_finds_116 ?_
        refine q_cmp_ge (tgt := 124) hx hb d_M_finds_117 (by decide) (fun h_117 => ?_) (fun h_117 => ?_)
        · refine lv_aload_n hx hb d_M_finds_124 rfl (lv_at hl 1 rfl) ?_
          refine q_get 0 1 i_M rfl hx hb hts hown hE hP rfl (by decide) x_937 rfl d_M_finds_125 ?_
          refine lv_sipush (v := 249) hx hb d_M_finds_128 (by decide) ?_
          refine q_lald (k := 249) 1 hx hb hE hP rfl rfl (by omega) (by decide) d_M_finds_131 ?_
          refine lv_lload_n hx hb d_M_finds_132 rfl (lv_at hl 4 rfl) ?_
          refine lv_lmul hx hb d_M_finds_133 ?_
          refine lv_ldc2 (v := 100) hx hb hown (hts _ (List.mem_cons_of_mem _ x_1011)) d_M_finds_134 ?_
          refine lv_aload_n hx hb d_M_finds_137 rfl (lv_at hl 1 rfl) ?_
          refine q_get 0 1 i_M rfl hx hb hts hown hE hP rfl (by decide) x_937 rfl d_M_finds_138 ?_
          refine lv_sipush (v := 247) hx hb d_M_finds_141 (by decide) ?_
          refine q_lald (k := 247) 1 hx hb hE hP rfl rfl (by omega) (by decide) d_M_finds_144 ?_
          refine lv_lmul hx hb d_M_finds_145 ?_
          refine lv_aload_n hx hb d_M_finds_146 rfl (lv_at hl 1 rfl) ?_
          refine q_get 0 1 i_M rfl hx hb hts hown hE hP rfl (by decide) x_937 rfl d_M_finds_147 ?_
          refine lv_sipush (v := 249) hx hb d_M_finds_150 (by decide) ?_
          refine q_lald (k := 249) 1 hx hb hE hP rfl rfl (by omega) (by decide) d_M_finds_153 ?_
          refine lv_aload_n hx hb d_M_finds_154 rfl (lv_at hl 1 rfl) ?_
          refine q_get 0 1 i_M rfl hx hb hts hown hE hP rfl (by decide) x_937 rfl d_M_finds_155 ?_
          refine lv_sipush (v := 245) hx hb d_M_finds_158 (by decide) ?_
          refine q_lald (k := 245) 1 hx hb hE hP rfl rfl (by omega) (by decide) d_M_finds_161 ?_
          refine lv_lmul hx hb d_M_finds_162 ?_
          refine lv_ladd hx hb d_M_finds_163 ?_
          refine lv_ldiv hx hb d_M_finds_164 (by rw [hp5, hp7, hp3, show (100 : Int64) = lN 100 from rfl, lN_mul, lN_mul, lN_add]; exact lNp (by omega) (by have := Nat.mul_le_mul hop hb5; omega)) ?_
          exact join_165 (((S 249) * (p_l (pH S) (pF S) (S 245) (S 246) k)) / ((100 * (S 247)) + ((S 249) * (S 245)))) (by unfold p_fl; first | exact ((if_pos (by omega)).trans (by rw [hdd])).symm | exact ((if_neg (by omega)).trans (if_pos (Int64.not_le.mp h_117))).symm | exact ((if_neg (by omega)).trans (if_neg (Int64.not_lt.mpr h_117))).symm) _ _ _ hP hD hS (lv_sub hl [1, 2, 3, 4, 0] rfl)
        · refine lv_lconst (v := 0) hx hb d_M_finds_120 (by decide) ?_
          refine lv_goto (tgt := 165) hx hb d_M_finds_121 (by decide) ?_
          exact join_165 0 (by unfold p_fl; first | exact ((if_pos (by omega)).trans (by rw [hdd])).symm | exact ((if_neg (by omega)).trans (if_pos (Int64.not_le.mp h_117))).symm | exact ((if_neg (by omega)).trans (if_neg (Int64.not_lt.mpr h_117))).symm) _ _ _ hP hD hS (lv_sub hl [1, 2, 3, 4, 0] rfl)
      · refine lv_lload_n hx hb d_M_finds_94 rfl (lv_at hl 4 rfl) ?_
        refine lv_lload hx hb d_M_finds_95 (lv_at hl 0 rfl) ?_
        refine lv_lsub hx hb d_M_finds_97 ?_
        refine lv_ldc2 (v := 2) hx hb hown (hts _ (List.mem_cons_of_mem _ x_976)) d_M_finds_98 ?_
        refine lv_aload_n hx hb d_M_finds_101 rfl (lv_at hl 1 rfl) ?_
        refine q_get 0 1 i_M rfl hx hb hts hown hE hP rfl (by decide) x_937 rfl d_M_finds_102 ?_
        refine lv_sipush (v := 245) hx hb d_M_finds_105 (by decide) ?_
        refine q_lald (k := 245) 1 hx hb hE hP rfl rfl (by omega) (by decide) d_M_finds_108 ?_
        refine lv_lmul hx hb d_M_finds_109 ?_
        refine lv_ldiv hx hb d_M_finds_110 (by rw [hp3, show (2 : Int64) = lN 2 from rfl, lN_mul]; exact lNp (by omega) (by omega)) ?_
        refine lv_goto (tgt := 165) hx hb d_M_finds_111 (by decide) ?_
        exact join_165 (((p_l (pH S) (pF S) (S 245) (S 246) k) - dd) / (2 * (S 245))) (by unfold p_fl; first | exact ((if_pos (by omega)).trans (by rw [hdd])).symm | exact ((if_neg (by omega)).trans (if_pos (Int64.not_le.mp h_117))).symm | exact ((if_neg (by omega)).trans (if_neg (Int64.not_lt.mpr h_117))).symm) _ _ _ hP hD hS (lv_sub hl [1, 2, 3, 4, 0] rfl)
    refine q_icmp_ne_n (a := k) (b := la) (tgt := 82) hx hb d_M_finds_75 (by decide) rfl rfl (by omega) (by omega) (fun h_75 => ?_) (fun h_75 => ?_)
    · refine lv_aload_n hx hb d_M_finds_82 rfl (lv_at hl 2 rfl) ?_
      refine lv_iload_n hx hb d_M_finds_83 rfl (lv_at hl 3 rfl) ?_
      refine cRV (As := [.int (nI k)]) (rest := []) (q9 := 0) (ci := 8) K_M_fromRight x_1211 hx hb hml hown hts hE hV hS (c_M_fromRight l D ct st am th bu he S k (by omega)) (hP.sub (ws' := [((am 0), .inr (8, [.int th, .ref (am 1), .ref (am 2), .ref (am 3), .ref (am 4), .ref (am 5), .long bu, .long he, .ref (am 6), .ref (am 7)])), ((am 1), .inl (ct 1, 334, .inr (.inl S)))]) [0, 1] rfl) rfl hP rfl rfl hl.1 rfl (Nat.le_of_ble_eq_true rfl) d_M_finds_84 (Nat.le_of_ble_eq_true rfl) (Nat.le_of_ble_eq_true rfl) ⟨Nat.le_of_ble_eq_true rfl, Nat.le_of_ble_eq_true rfl⟩ ?_
      exact join_87 (p_r (pH S) (pF S) (S 245) (S 246) k) (by unfold p_d; first | exact (if_pos h_75).symm | exact (if_neg h_75).symm) _ _ _ hP hD hS (lv_sub hl [2, 3, 1, 0] rfl)
    · refine lv_lconst (v := 0) hx hb d_M_finds_78 (by decide) ?_
      refine lv_goto (tgt := 87) hx hb d_M_finds_79 (by decide) ?_
      exact join_87 0 (by unfold p_d; first | exact (if_pos h_75).symm | exact (if_neg h_75).symm) _ _ _ hP hD hS (lv_sub hl [2, 3, 1, 0] rfl)
  · refine lv_aload_n hx hb d_M_finds_14 rfl (lv_at hl 1 rfl) ?_
    refine q_get 0 9 i_M rfl hx hb hts hown hE hP rfl (by decide) x_945 rfl d_M_finds_15 ?_
    refine lv_iconst (v := 0) hx hb d_M_finds_18 (by decide) ?_
    refine lv_aload_n hx hb d_M_finds_19 rfl (lv_at hl 1 rfl) ?_
    refine q_get 0 1 i_M rfl hx hb hts hown hE hP rfl (by decide) x_937 rfl d_M_finds_20 ?_
    refine lv_sipush (v := 248) hx hb d_M_finds_23 (by decide) ?_
    refine q_lald (k := 248) 1 hx hb hE hP rfl rfl (by omega) (by decide) d_M_finds_26 ?_
    obtain ⟨nodes_4, enodes_4⟩ : ∃ g9 : Nat → Int64, g9 = vp_updL Nd 0 (S 248) := ⟨_, rfl⟩
    refine q_last (k := 0) 2 (ws1 := [((am 0), .inr (8, [.int th, .ref (am 1), .ref (am 2), .ref (am 3), .ref (am 4), .ref (am 5), .long bu, .long he, .ref (am 6), .ref (am 7)])), ((am 1), .inl (ct 1, 334, .inr (.inl S))), ((am 7), .inl (ct 1, 63, .inr (.inl nodes_4)))]) enodes_4 hx hb hE hP hD hS rfl rfl (by omega) (by decide) rfl d_M_finds_27 (fun H locs hP hD hS => ?_)
    refine lv_aload_n hx hb d_M_finds_28 rfl (lv_at hl 1 rfl) ?_
    refine q_get 0 9 i_M rfl hx hb hts hown hE hP rfl (by decide) x_945 rfl d_M_finds_29 ?_
    refine lv_bipush (v := 21) hx hb d_M_finds_32 (by decide) ?_
    refine lv_aload_n hx hb d_M_finds_34 rfl (lv_at hl 1 rfl) ?_
    refine q_get 0 1 i_M rfl hx hb hts hown hE hP rfl (by decide) x_937 rfl d_M_finds_35 ?_
    refine lv_sipush (v := 248) hx hb d_M_finds_38 (by decide) ?_
    refine q_lald (k := 248) 1 hx hb hE hP rfl rfl (by omega) (by decide) d_M_finds_41 ?_
    refine lv_aload_n hx hb d_M_finds_42 rfl (lv_at hl 1 rfl) ?_
    refine lv_iconst (v := 0) hx hb d_M_finds_43 (by decide) ?_
    refine cRV (As := [.int 0]) (rest := [.long (S 248), .int 21, .ref (am 7)]) (q9 := 0) (ci := 8) K_M_fromRight x_1211 hx hb hml hown hts hE hV hS (c_M_fromRight l D ct st am th bu he S 0 (by omega)) (hP.sub (ws' := [((am 0), .inr (8, [.int th, .ref (am 1), .ref (am 2), .ref (am 3), .ref (am 4), .ref (am 5), .long bu, .long he, .ref (am 6), .ref (am 7)])), ((am 1), .inl (ct 1, 334, .inr (.inl S)))]) [0, 1] rfl) rfl hP rfl rfl hl.1 rfl (Nat.le_of_ble_eq_true rfl) d_M_finds_44 (Nat.le_of_ble_eq_true rfl) (Nat.le_of_ble_eq_true rfl) ⟨Nat.le_of_ble_eq_true rfl, Nat.le_of_ble_eq_true rfl⟩ ?_
    refine lv_lsub hx hb d_M_finds_47 ?_
    refine lv_aload_n hx hb d_M_finds_48 rfl (lv_at hl 1 rfl) ?_
    refine q_get 0 1 i_M rfl hx hb hts hown hE hP rfl (by decide) x_937 rfl d_M_finds_49 ?_
    refine lv_sipush (v := 245) hx hb d_M_finds_52 (by decide) ?_
    refine q_lald (k := 245) 1 hx hb hE hP rfl rfl (by omega) (by decide) d_M_finds_55 ?_
    refine lv_ldiv hx hb d_M_finds_56 (hbn) ?_
    obtain ⟨nodes_5, enodes_5⟩ : ∃ g9 : Nat → Int64, g9 = vp_updL nodes_4 21 (((S 248) - (p_r (pH S) (pF S) (S 245) (S 246) 0)) / (S 245)) := ⟨_, rfl⟩
    refine q_last (k := 21) 2 (ws1 := [((am 0), .inr (8, [.int th, .ref (am 1), .ref (am 2), .ref (am 3), .ref (am 4), .ref (am 5), .long bu, .long he, .ref (am 6), .ref (am 7)])), ((am 1), .inl (ct 1, 334, .inr (.inl S))), ((am 7), .inl (ct 1, 63, .inr (.inl nodes_5)))]) enodes_5 hx hb hE hP hD hS rfl rfl (by omega) (by decide) rfl d_M_finds_57 (fun H locs hP hD hS => ?_)
    refine lv_aload_n hx hb d_M_finds_58 rfl (lv_at hl 1 rfl) ?_
    refine q_get 0 9 i_M rfl hx hb hts hown hE hP rfl (by decide) x_945 rfl d_M_finds_59 ?_
    refine lv_bipush (v := 42) hx hb d_M_finds_62 (by decide) ?_
    refine lv_lconst (v := 0) hx hb d_M_finds_64 (by decide) ?_
    obtain ⟨nodes_6, enodes_6⟩ : ∃ g9 : Nat → Int64, g9 = vp_updL nodes_5 42 0 := ⟨_, rfl⟩
    refine q_last (k := 42) 2 (ws1 := [((am 0), .inr (8, [.int th, .ref (am 1), .ref (am 2), .ref (am 3), .ref (am 4), .ref (am 5), .long bu, .long he, .ref (am 6), .ref (am 7)])), ((am 1), .inl (ct 1, 334, .inr (.inl S))), ((am 7), .inl (ct 1, 63, .inr (.inl nodes_6)))]) enodes_6 hx hb hE hP hD hS rfl rfl (by omega) (by decide) rfl d_M_finds_65 (fun H locs hP hD hS => ?_)
    exact rW_v hx hb hr hlk hAe hS hP hD (Nat.le_of_ble_eq_true rfl) (Nat.le_of_ble_eq_true rfl) d_M_finds_66 ⟨nodes_6, rfl, rfl, ⟨⟨by unfold p_nh; rw [if_pos h_11, h_11]; simp (disch := omega) only [enodes_6, enodes_5, enodes_4, pk_uLn, pk_uLs, pk_us, pk_un], by unfold p_nf; rw [if_pos h_11, h_11]; simp (disch := omega) only [enodes_6, enodes_5, enodes_4, pk_uLn, pk_uLs, pk_us, pk_un], by unfold p_nc; rw [if_pos h_11, h_11]; simp (disch := omega) only [enodes_6, enodes_5, enodes_4, pk_uLn, pk_uLs, pk_us, pk_un]⟩, fun j e1 e2 e3 => by simp (disch := omega) only [enodes_6, enodes_5, enodes_4, pk_uLn, pk_uLs, pk_us, pk_un]⟩⟩
theorem nd_step {N N1 : Nat → Int64} {la k : Nat} {a0 a1 a2 : Nat → Int64} (hk : k ≤ la) (hl : la ≤ 20) (h : ∀ j, j < k → N j = a0 j ∧ N (21 + j) = a1 j ∧ N (42 + j) = a2 j) (h1 : (N1 k = a0 k ∧ N1 (21 + k) = a1 k ∧ N1 (42 + k) = a2 k) ∧ ∀ j, j ≠ k → j ≠ 21 + k → j ≠ 42 + k → N1 j = N j) : ∀ j, j < k + 1 → N1 j = a0 j ∧ N1 (21 + j) = a1 j ∧ N1 (42 + j) = a2 j := by
  intro j hj
  rcases Nat.lt_succ_iff_lt_or_eq.mp hj with q | rfl
  · obtain ⟨q0, q1, q2⟩ := h j q
    exact ⟨by rw [h1.2 _ (by omega) (by omega) (by omega)]; exact q0, by rw [h1.2 _ (by omega) (by omega) (by omega)]; exact q1, by rw [h1.2 _ (by omega) (by omega) (by omega)]; exact q2⟩
  · exact h1.1
theorem all_s {p : Nat → Prop} {k : Nat} (h : ∀ j, j < k → p j) (h1 : p k) : ∀ j, j < k + 1 → p j := fun j hj => (Nat.lt_succ_iff_lt_or_eq.mp hj).elim (h j) (fun e => e ▸ h1)
set_option maxHeartbeats 4000000 in
set_option maxRecDepth 100000 in
theorem c_M_flowed (l : Launch) (D : va_G) (ct : Nat → ClassId) (st : Nat → Nat) (am : Nat → Nat) (th : Int32) (bu : Int64) (he : Int64) (S : Nat → Int64) (Nd : Nat → Int64) (la : Nat) (b : Nat) (r : Nat) (z : Nat) (src : Nat) (op : Nat) (hPS : PS S la b r z src op) (sz : Nat) : Met l y_M_flowed (wsy y_M_flowed b_M_flowed 4 (some .boolean)) (rmW 4 0 0 98) (PcW D ct st [.ref (am 0)] [((am 0), .inr (8, [.int th, .ref (am 1), .ref (am 2), .ref (am 3), .ref (am 4), .ref (am 5), .long bu, .long he, .ref (am 6), .ref (am 7)])), ((am 1), .inl (ct 1, 334, .inr (.inl S))), ((am 7), .inl (ct 1, 63, .inr (.inl Nd)))] sz) (QcW D [((am 0), .inr (8, [.int th, .ref (am 1), .ref (am 2), .ref (am 3), .ref (am 4), .ref (am 5), .long bu, .long he, .ref (am 6), .ref (am 7)])), ((am 1), .inl (ct 1, 334, .inr (.inl S))), ((am 7), .inl (ct 1, 63, .inr (.inl Nd)))] sz (fun v W1 => ∃ (s1 : Nat → Int64) (nodes1 : Nat → Int64), v = some (.int (bI (sPok S la))) ∧ W1 = [((am 0), .inr (8, [.int th, .ref (am 1), .ref (am 2), .ref (am 3), .ref (am 4), .ref (am 5), .long bu, .long he, .ref (am 6), .ref (am 7)])), ((am 1), .inl (ct 1, 334, .inr (.inl s1))), ((am 7), .inl (ct 1, 63, .inr (.inl nodes1)))] ∧ ((sPok S la → PStp la S s1) ∧ (¬ sPok S la → s1 = S)))) 0 0 (va_A [((am 0), .inr (8, [.int th, .ref (am 1), .ref (am 2), .ref (am 3), .ref (am 4), .ref (am 5), .long bu, .long he, .ref (am 6), .ref (am 7)])), ((am 1), .inl (ct 1, 334, .inr (.inl S))), ((am 7), .inl (ct 1, 63, .inr (.inl Nd)))] sz) := by
  refine enterW (by decide) (Nat.le_of_ble_eq_true rfl) ?_
  intro p e s m args below meth c ls A hx hb hr hml hown hts hlk hin hsz hAe hP hD hA hE hV hS hl
  have hl : lv_has ls 4 [(0, .ref (am 0))] := hl
  obtain ⟨hp1, ⟨hp2, hla1, hla⟩, ⟨hp3, hb1, hb5⟩, ⟨hp4, hr2⟩, ⟨hp5, hz1, hz5⟩, ⟨hp6, hsr⟩, ⟨hp7, hop⟩, hnd⟩ := id hPS
  refine lv_aload_n hx hb d_M_flowed_0 rfl (lv_at hl 0 rfl) ?_
  refine q_get 0 1 i_M rfl hx hb hts hown hE hP rfl (by decide) x_937 rfl d_M_flowed_1 ?_
  refine lv_sipush (v := 244) hx hb d_M_flowed_4 (by decide) ?_
  refine q_lald (k := 244) 1 hx hb hE hP rfl rfl (by omega) (by decide) d_M_flowed_7 ?_
  refine q_topl (v := lN la) (hp2) ?_
  refine lv_l2i (v := nI la) hx hb d_M_flowed_8 (lN_i _) ?_
  refine lv_istore_n (lv' := [(1, .int (nI la)), (0, .ref (am 0))]) hx hb d_M_flowed_9 rfl hl (by decide) rfl (fun ls hl => ?_)
  refine lv_iconst (v := 1) hx hb d_M_flowed_10 (by decide) ?_
  refine q_topi (v := bI (∀ j, j < 0 → p_okn (pH S) (pF S) (pC S) (S 245) (S 246) (S 247) (S 248) (S 249) la j)) (bI_1 (fun j hj => absurd hj (Nat.not_lt_zero _))) ?_
  refine lv_istore_n (lv' := [(2, .int (bI (∀ j, j < 0 → p_okn (pH S) (pF S) (pC S) (S 245) (S 246) (S 247) (S 248) (S 249) la j))), (1, .int (nI la)), (0, .ref (am 0))]) hx hb d_M_flowed_11 rfl hl (by decide) rfl (fun ls hl => ?_)
  refine lv_iconst (v := 0) hx hb d_M_flowed_12 (by decide) ?_
  refine lv_istore_n (lv' := [(3, .int 0), (2, .int (bI (∀ j, j < 0 → p_okn (pH S) (pF S) (pC S) (S 245) (S 246) (S 247) (S 248) (S 249) la j))), (1, .int (nI la)), (0, .ref (am 0))]) hx hb d_M_flowed_13 rfl hl (by decide) rfl (fun ls hl => ?_)
  have loop_14 : ∀ (n9 : Nat) (k : Nat) (N1 : Nat → Int64) (hk : k ≤ la + 1) (hN : ∀ j, j < k → N1 j = p_nh (pH S) (pF S) (pC S) (S 245) (S 246) (S 247) (S 248) (S 249) la j ∧ N1 (21 + j) = p_nf (pH S) (pF S) (pC S) (S 245) (S 246) (S 247) (S 248) (S 249) la j ∧ N1 (42 + j) = p_nc (pH S) (pF S) (pC S) (S 245) (S 246) (S 247) (S 248) (S 249) la j) (hn9 : la + 1 - k < n9) (H : Heap) (locs : List Loc) (ls : Array Slot), va_P D classes [((am 0), .inr (8, [.int th, .ref (am 1), .ref (am 2), .ref (am 3), .ref (am 4), .ref (am 5), .long bu, .long he, .ref (am 6), .ref (am 7)])), ((am 1), .inl (ct 1, 334, .inr (.inl S))), ((am 7), .inl (ct 1, 63, .inr (.inl N1)))] H → va_D A [((am 0), .inr (8, [.int th, .ref (am 1), .ref (am 2), .ref (am 3), .ref (am 4), .ref (am 5), .long bu, .long he, .ref (am 6), .ref (am 7)])), ((am 1), .inl (ct 1, 334, .inr (.inl S))), ((am 7), .inl (ct 1, 63, .inr (.inl N1)))] → va_S A s.heap H locs → lv_has ls 4 [(0, .ref (am 0)), (1, .int (nI la)), (2, .int (bI (∀ j, j < k → p_okn (pH S) (pF S) (pC S) (S 245) (S 246) (S 247) (S 248) (S 249) la j))), (3, .int (nI k))] → W p l e (rmW 4 0 0 98) s m args below meth c H locs (0) (0) (MQ below (QcW D [((am 0), .inr (8, [.int th, .ref (am 1), .ref (am 2), .ref (am 3), .ref (am 4), .ref (am 5), .long bu, .long he, .ref (am 6), .ref (am 7)])), ((am 1), .inl (ct 1, 334, .inr (.inl S))), ((am 7), .inl (ct 1, 63, .inr (.inl Nd)))] sz (fun v W1 => ∃ (s1 : Nat → Int64) (nodes1 : Nat → Int64), v = some (.int (bI (sPok S la))) ∧ W1 = [((am 0), .inr (8, [.int th, .ref (am 1), .ref (am 2), .ref (am 3), .ref (am 4), .ref (am 5), .long bu, .long he, .ref (am 6), .ref (am 7)])), ((am 1), .inl (ct 1, 334, .inr (.inl s1))), ((am 7), .inl (ct 1, 63, .inr (.inl nodes1)))] ∧ ((sPok S la → PStp la S s1) ∧ (¬ sPok S la → s1 = S)))) args s 0 0 A) (F0 m 14 ls []) := by
    intro n9
    induction n9 with
    | zero => intro k N1 hk hN hn9 H locs ls hP hD hS hl; exact absurd hn9 (Nat.not_lt_zero _)
    | succ n9 ih_14 =>
      intro k N1 hk hN hn9 H locs ls hP hD hS hl
      refine lv_iload_n hx hb d_M_flowed_14 rfl (lv_at hl 3 rfl) ?_
      refine lv_iload_n hx hb d_M_flowed_15 rfl (lv_at hl 1 rfl) ?_
      refine q_icmp_gt_n (a := k) (b := la) (tgt := 79) hx hb d_M_flowed_16 (by decide) rfl rfl (by omega) (by omega) (fun h_16 => ?_) (fun h_16 => ?_)
      · have his : (∀ j, j < k → p_okn (pH S) (pF S) (pC S) (S 245) (S 246) (S 247) (S 248) (S 249) la j) ↔ sPok S la := ⟨fun z j hj => z j (by omega), fun z j hj => z j (by omega)⟩
        have hN2 : ∀ j, j ≤ la → N1 j = p_nh (pH S) (pF S) (pC S) (S 245) (S 246) (S 247) (S 248) (S 249) la j ∧ N1 (21 + j) = p_nf (pH S) (pF S) (pC S) (S 245) (S 246) (S 247) (S 248) (S 249) la j ∧ N1 (42 + j) = p_nc (pH S) (pF S) (pC S) (S 245) (S 246) (S 247) (S 248) (S 249) la j := fun j hj => hN j (by omega)
        refine lv_iconst (v := 0) hx hb d_M_flowed_79 (by decide) ?_
        refine lv_istore_n (lv' := [(3, .int 0), (0, .ref (am 0)), (1, .int (nI la)), (2, .int (bI (∀ j, j < k → p_okn (pH S) (pF S) (pC S) (S 245) (S 246) (S 247) (S 248) (S 249) la j)))]) hx hb d_M_flowed_80 rfl hl (by decide) rfl (fun ls hl => ?_)
        have loop_81 : ∀ (n9 : Nat) (i : Nat) (T : Nat → Int64) (hi : i ≤ la + 1) (hz9 : i = 0 ∨ sPok S la) (hT4 : ∀ j, j < i → T (250 + j) = p_nh (pH S) (pF S) (pC S) (S 245) (S 246) (S 247) (S 248) (S 249) la j ∧ T (271 + j) = p_nf (pH S) (pF S) (pC S) (S 245) (S 246) (S 247) (S 248) (S 249) la j ∧ T (292 + j) = p_nc (pH S) (pF S) (pC S) (S 245) (S 246) (S 247) (S 248) (S 249) la j ∧ T (313 + j) = (if S (313 + j) < p_nh (pH S) (pF S) (pC S) (S 245) (S 246) (S 247) (S 248) (S 249) la j then p_nh (pH S) (pF S) (pC S) (S 245) (S 246) (S 247) (S 248) (S 249) la j else S (313 + j))) (hTo : ∀ j, (j < 250 ∨ (250 + i ≤ j ∧ j < 271) ∨ (271 + i ≤ j ∧ j < 292) ∨ (292 + i ≤ j ∧ j < 313) ∨ 313 + i ≤ j) → T j = S j) (hn9 : la + 1 - i < n9) (H : Heap) (locs : List Loc) (ls : Array Slot), va_P D classes [((am 0), .inr (8, [.int th, .ref (am 1), .ref (am 2), .ref (am 3), .ref (am 4), .ref (am 5), .long bu, .long he, .ref (am 6), .ref (am 7)])), ((am 1), .inl (ct 1, 334, .inr (.inl T))), ((am 7), .inl (ct 1, 63, .inr (.inl N1)))] H → va_D A [((am 0), .inr (8, [.int th, .ref (am 1), .ref (am 2), .ref (am 3), .ref (am 4), .ref (am 5), .long bu, .long he, .ref (am 6), .ref (am 7)])), ((am 1), .inl (ct 1, 334, .inr (.inl T))), ((am 7), .inl (ct 1, 63, .inr (.inl N1)))] → va_S A s.heap H locs → lv_has ls 4 [(0, .ref (am 0)), (1, .int (nI la)), (2, .int (bI (∀ j, j < k → p_okn (pH S) (pF S) (pC S) (S 245) (S 246) (S 247) (S 248) (S 249) la j))), (3, .int (nI i))] → W p l e (rmW 4 0 0 98) s m args below meth c H locs (0) (0) (MQ below (QcW D [((am 0), .inr (8, [.int th, .ref (am 1), .ref (am 2), .ref (am 3), .ref (am 4), .ref (am 5), .long bu, .long he, .ref (am 6), .ref (am 7)])), ((am 1), .inl (ct 1, 334, .inr (.inl S))), ((am 7), .inl (ct 1, 63, .inr (.inl Nd)))] sz (fun v W1 => ∃ (s1 : Nat → Int64) (nodes1 : Nat → Int64), v = some (.int (bI (sPok S la))) ∧ W1 = [((am 0), .inr (8, [.int th, .ref (am 1), .ref (am 2), .ref (am 3), .ref (am 4), .ref (am 5), .long bu, .long he, .ref (am 6), .ref (am 7)])), ((am 1), .inl (ct 1, 334, .inr (.inl s1))), ((am 7), .inl (ct 1, 63, .inr (.inl nodes1)))] ∧ ((sPok S la → PStp la S s1) ∧ (¬ sPok S la → s1 = S)))) args s 0 0 A) (F0 m 81 ls []) := by
          intro n9
          induction n9 with
          | zero => intro i T hi hz9 hT4 hTo hn9 H locs ls hP hD hS hl; exact absurd hn9 (Nat.not_lt_zero _)
          | succ n9 ih_81 =>
            intro i T hi hz9 hT4 hTo hn9 H locs ls hP hD hS hl
            refine lv_iload_n hx hb d_M_flowed_81 rfl (lv_at hl 3 rfl) ?_
            refine lv_iload_n hx hb d_M_flowed_82 rfl (lv_at hl 1 rfl) ?_
            refine q_icmp_gt_n (a := i) (b := la) (tgt := 199) hx hb d_M_flowed_83 (by decide) rfl rfl (by omega) (by omega) (fun h_83 => ?_) (fun h_83 => ?_)
            · refine lv_iload_n hx hb d_M_flowed_199 rfl (lv_at hl 2 rfl) ?_
              refine q_topi (v := bI (sPok S la)) (by rw [his]) ?_
              exact rW_z (P := sPok S la) hx hb hr hlk hAe hS hP hD (Nat.le_of_ble_eq_true rfl) (Nat.le_of_ble_eq_true rfl) d_M_flowed_200 (rfl) ⟨T, N1, rfl, rfl, by first | exact ⟨fun z => absurd (his.mpr z) h_87, fun _ => funext fun j => hTo j (hz9.elim (fun e => by omega) (fun z => absurd (his.mpr z) h_87))⟩ | exact ⟨fun _ => ⟨fun j hj => hT4 j (by omega), fun j hj => hTo j (by omega)⟩, fun z => (hz9.elim (fun e => by omega) (fun e => absurd e z))⟩⟩
            · refine lv_iload_n hx hb d_M_flowed_86 rfl (lv_at hl 2 rfl) ?_
              refine q_ifeq_b (tgt := 199) hx hb d_M_flowed_87 (by decide) (fun h_87 => ?_) (fun h_87 => ?_)
              · refine lv_iload_n hx hb d_M_flowed_199 rfl (lv_at hl 2 rfl) ?_
                refine q_topi (v := bI (sPok S la)) (by rw [his]) ?_
                exact rW_z (P := sPok S la) hx hb hr hlk hAe hS hP hD (Nat.le_of_ble_eq_true rfl) (Nat.le_of_ble_eq_true rfl) d_M_flowed_200 (rfl) ⟨T, N1, rfl, rfl, by first | exact ⟨fun z => absurd (his.mpr z) h_87, fun _ => funext fun j => hTo j (hz9.elim (fun e => by omega) (fun z => absurd (his.mpr z) h_87))⟩ | exact ⟨fun _ => ⟨fun j hj => hT4 j (by omega), fun j hj => hTo j (by omega)⟩, fun z => (hz9.elim (fun e => by omega) (fun e => absurd e z))⟩⟩
              · refine lv_aload_n hx hb d_M_flowed_90 rfl (lv_at hl 0 rfl) ?_
                refine q_get 0 1 i_M rfl hx hb hts hown hE hP rfl (by decide) x_937 rfl d_M_flowed_91 ?_
                refine lv_sipush (v := 250) hx hb d_M_flowed_94 (by decide) ?_
                refine lv_iload_n hx hb d_M_flowed_97 rfl (lv_at hl 3 rfl) ?_
                refine q_iadd (v := nI (250 + i)) hx hb d_M_flowed_98 (nI_add 250 i) ?_
                refine lv_aload_n hx hb d_M_flowed_99 rfl (lv_at hl 0 rfl) ?_
                refine q_get 0 9 i_M rfl hx hb hts hown hE hP rfl (by decide) x_945 rfl d_M_flowed_100 ?_
                refine lv_iload_n hx hb d_M_flowed_103 rfl (lv_at hl 3 rfl) ?_
                refine q_lald (k := i) 2 hx hb hE hP rfl rfl (by omega) (by decide) d_M_flowed_104 ?_
                refine q_topl (v := p_nh (pH S) (pF S) (pC S) (S 245) (S 246) (S 247) (S 248) (S 249) la i) ((hN2 i (by omega)).1) ?_
                obtain ⟨s_1, es_1⟩ : ∃ g9 : Nat → Int64, g9 = vp_updL T (250 + i) (p_nh (pH S) (pF S) (pC S) (S 245) (S 246) (S 247) (S 248) (S 249) la i) := ⟨_, rfl⟩
                refine q_last (k := 250 + i) 1 (ws1 := [((am 0), .inr (8, [.int th, .ref (am 1), .ref (am 2), .ref (am 3), .ref (am 4), .ref (am 5), .long bu, .long he, .ref (am 6), .ref (am 7)])), ((am 1), .inl (ct 1, 334, .inr (.inl s_1))), ((am 7), .inl (ct 1, 63, .inr (.inl N1)))]) es_1 hx hb hE hP hD hS rfl rfl (by omega) (by decide) rfl d_M_flowed_105 (fun H locs hP hD hS => ?_)
                refine lv_aload_n hx hb d_M_flowed_106 rfl (lv_at hl 0 rfl) ?_
                refine q_get 0 1 i_M rfl hx hb hts hown hE hP rfl (by decide) x_937 rfl d_M_flowed_107 ?_
                refine lv_sipush (v := 271) hx hb d_M_flowed_110 (by decide) ?_
                refine lv_iload_n hx hb d_M_flowed_113 rfl (lv_at hl 3 rfl) ?_
                refine q_iadd (v := nI (271 + i)) hx hb d_M_flowed_114 (nI_add 271 i) ?_
                refine lv_aload_n hx hb d_M_flowed_115 rfl (lv_at hl 0 rfl) ?_
                refine q_get 0 9 i_M rfl hx hb hts hown hE hP rfl (by decide) x_945 rfl d_M_flowed_116 ?_
                refine lv_bipush (v := 21) hx hb d_M_flowed_119 (by decide) ?_
                refine lv_iload_n hx hb d_M_flowed_121 rfl (lv_at hl 3 rfl) ?_
                refine q_iadd (v := nI (21 + i)) hx hb d_M_flowed_122 (nI_add 21 i) ?_
                refine q_lald (k := 21 + i) 2 hx hb hE hP rfl rfl (by omega) (by decide) d_M_flowed_123 ?_
                obtain ⟨s_2, es_2⟩ : ∃ g9 : Nat → Int64, g9 = vp_updL s_1 (271 + i) (N1 (21 + i)) := ⟨_, rfl⟩
                refine q_last (k := 271 + i) 1 (ws1 := [((am 0), .inr (8, [.int th, .ref (am 1), .ref (am 2), .ref (am 3), .ref (am 4), .ref (am 5), .long bu, .long he, .ref (am 6), .ref (am 7)])), ((am 1), .inl (ct 1, 334, .inr (.inl s_2))), ((am 7), .inl (ct 1, 63, .inr (.inl N1)))]) es_2 hx hb hE hP hD hS rfl rfl (by omega) (by decide) rfl d_M_flowed_124 (fun H locs hP hD hS => ?_)
                refine lv_aload_n hx hb d_M_flowed_125 rfl (lv_at hl 0 rfl) ?_
                refine q_get 0 1 i_M rfl hx hb hts hown hE hP rfl (by decide) x_937 rfl d_M_flowed_126 ?_
                refine lv_sipush (v := 292) hx hb d_M_flowed_129 (by decide) ?_
                refine lv_iload_n hx hb d_M_flowed_132 rfl (lv_at hl 3 rfl) ?_
                refine q_iadd (v := nI (292 + i)) hx hb d_M_flowed_133 (nI_add 292 i) ?_
                refine lv_aload_n hx hb d_M_flowed_134 rfl (lv_at hl 0 rfl) ?_
                refine q_get 0 9 i_M rfl hx hb hts hown hE hP rfl (by decide) x_945 rfl d_M_flowed_135 ?_
                refine lv_bipush (v := 42) hx hb d_M_flowed_138 (by decide) ?_
                refine lv_iload_n hx hb d_M_flowed_140 rfl (lv_at hl 3 rfl) ?_
                refine q_iadd (v := nI (42 + i)) hx hb d_M_flowed_141 (nI_add 42 i) ?_
                refine q_lald (k := 42 + i) 2 hx hb hE hP rfl rfl (by omega) (by decide) d_M_flowed_142 ?_
                obtain ⟨s_3, es_3⟩ : ∃ g9 : Nat → Int64, g9 = vp_updL s_2 (292 + i) (N1 (42 + i)) := ⟨_, rfl⟩
                refine q_last (k := 292 + i) 1 (ws1 := [((am 0), .inr (8, [.int th, .ref (am 1), .ref (am 2), .ref (am 3), .ref (am 4), .ref (am 5), .long bu, .long he, .ref (am 6), .ref (am 7)])), ((am 1), .inl (ct 1, 334, .inr (.inl s_3))), ((am 7), .inl (ct 1, 63, .inr (.inl N1)))]) es_3 hx hb hE hP hD hS rfl rfl (by omega) (by decide) rfl d_M_flowed_143 (fun H locs hP hD hS => ?_)
                refine lv_aload_n hx hb d_M_flowed_144 rfl (lv_at hl 0 rfl) ?_
                refine q_get 0 1 i_M rfl hx hb hts hown hE hP rfl (by decide) x_937 rfl d_M_flowed_145 ?_
                refine lv_sipush (v := 313) hx hb d_M_flowed_148 (by decide) ?_
                refine lv_iload_n hx hb d_M_flowed_151 rfl (lv_at hl 3 rfl) ?_
                refine q_iadd (v := nI (313 + i)) hx hb d_M_flowed_152 (nI_add 313 i) ?_
                refine lv_aload_n hx hb d_M_flowed_153 rfl (lv_at hl 0 rfl) ?_
                refine q_get 0 9 i_M rfl hx hb hts hown hE hP rfl (by decide) x_945 rfl d_M_flowed_154 ?_
                refine lv_iload_n hx hb d_M_flowed_157 rfl (lv_at hl 3 rfl) ?_
                refine q_lald (k := i) 2 hx hb hE hP rfl rfl (by omega) (by decide) d_M_flowed_158 ?_
                refine q_topl (v := p_nh (pH S) (pF S) (pC S) (S 245) (S 246) (S 247) (S 248) (S 249) la i) ((hN2 i (by omega)).1) ?_
                refine lv_aload_n hx hb d_M_flowed_159 rfl (lv_at hl 0 rfl) ?_
                refine q_get 0 1 i_M rfl hx hb hts hown hE hP rfl (by decide) x_937 rfl d_M_flowed_160 ?_
                refine lv_sipush (v := 313) hx hb d_M_flowed_163 (by decide) ?_
                refine lv_iload_n hx hb d_M_flowed_166 rfl (lv_at hl 3 rfl) ?_
                refine q_iadd (v := nI (313 + i)) hx hb d_M_flowed_167 (nI_add 313 i) ?_
                refine q_lald (k := 313 + i) 1 hx hb hE hP rfl rfl (by omega) (by decide) d_M_flowed_168 ?_
                refine q_topl (v := S (313 + i)) (by simp (disch := omega) only [es_3, es_2, es_1, pk_uLn, pk_uLs, pk_us, pk_un]; exact hTo _ (by omega)) ?_
                refine W.lcmp hx hb d_M_flowed_169 ?_
                have join_192 : ∀ (be : Int64) (hbe : be = (if S (313 + i) < p_nh (pH S) (pF S) (pC S) (S 245) (S 246) (S 247) (S 248) (S 249) la i then p_nh (pH S) (pF S) (pC S) (S 245) (S 246) (S 247) (S 248) (S 249) la i else S (313 + i))) (H : Heap) (locs : List Loc) (ls : Array Slot), va_P D classes [((am 0), .inr (8, [.int th, .ref (am 1), .ref (am 2), .ref (am 3), .ref (am 4), .ref (am 5), .long bu, .long he, .ref (am 6), .ref (am 7)])), ((am 1), .inl (ct 1, 334, .inr (.inl s_3))), ((am 7), .inl (ct 1, 63, .inr (.inl N1)))] H → va_D A [((am 0), .inr (8, [.int th, .ref (am 1), .ref (am 2), .ref (am 3), .ref (am 4), .ref (am 5), .long bu, .long he, .ref (am 6), .ref (am 7)])), ((am 1), .inl (ct 1, 334, .inr (.inl s_3))), ((am 7), .inl (ct 1, 63, .inr (.inl N1)))] → va_S A s.heap H locs → lv_has ls 4 [(0, .ref (am 0)), (1, .int (nI la)), (2, .int (bI (∀ j, j < k → p_okn (pH S) (pF S) (pC S) (S 245) (S 246) (S 247) (S 248) (S 249) la j))), (3, .int (nI i))] → W p l e (rmW 4 0 0 98) s m args below meth c H locs (0) (0) (MQ below (QcW D [((am 0), .inr (8, [.int th, .ref (am 1), .ref (am 2), .ref (am 3), .ref (am 4), .ref (am 5), .long bu, .long he, .ref (am 6), .ref (am 7)])), ((am 1), .inl (ct 1, 334, .inr (.inl S))), ((am 7), .inl (ct 1, 63, .inr (.inl Nd)))] sz (fun v W1 => ∃ (s1 : Nat → Int64) (nodes1 : Nat → Int64), v = some (.int (bI (sPok S la))) ∧ W1 = [((am 0), .inr (8, [.int th, .ref (am 1), .ref (am 2), .ref (am 3), .ref (am 4), .ref (am 5), .long bu, .long he, .ref (am 6), .ref (am 7)])), ((am 1), .inl (ct 1, 334, .inr (.inl s1))), ((am 7), .inl (ct 1, 63, .inr (.inl nodes1)))] ∧ ((sPok S la → PStp la S s1) ∧ (¬ sPok S la → s1 = S)))) args s 0 0 A) (F0 m 192 ls [.long be, .int (nI (313 + i)), .ref (am 1)]) := by
                  intro be hbe H locs ls hP hD hS hl
                  obtain ⟨s_4, es_4⟩ : ∃ g9 : Nat → Int64, g9 = vp_updL s_3 (313 + i) be := ⟨_, rfl⟩
                  refine q_last (k := 313 + i) 1 (ws1 := [((am 0), .inr (8, [.int th, .ref (am 1), .ref (am 2), .ref (am 3), .ref (am 4), .ref (am 5), .long bu, .long he, .ref (am 6), .ref (am 7)])), ((am 1), .inl (ct 1, 334, .inr (.inl s_4))), ((am 7), .inl (ct 1, 63, .inr (.inl N1)))]) es_4 hx hb hE hP hD hS rfl rfl (by omega) (by decide) rfl d_M_flowed_192 (fun H locs hP hD hS => ?_)
                  refine lv_iinc (v := (nI (i + 1))) (lv' := [(3, .int (nI (i + 1))), (0, .ref (am 0)), (1, .int (nI la)), (2, .int (bI (∀ j, j < k → p_okn (pH S) (pF S) (pC S) (S 245) (S 246) (S 247) (S 248) (S 249) la j)))]) hx hb d_M_flowed_193 hl (k := 3) rfl (nI_1 _) (by decide) rfl (fun ls hl => ?_)
                  refine lv_goto (tgt := 81) hx hb d_M_flowed_196 (by decide) ?_
                  exact ih_81 (i + 1) s_4 (by omega) (Or.inr (his.mp h_87)) (fun j hj => by
                                        rcases Nat.lt_succ_iff_lt_or_eq.mp hj with q | rfl
                                        · have := hT4 j q
                                          simp (disch := omega) only [es_4, es_3, es_2, es_1, pk_uLn, pk_uLs]
                                          exact this
                                        · obtain ⟨z1, z2, z3⟩ := hN2 j (by omega)
                                          refine ⟨by simp (disch := omega) only [es_4, es_3, es_2, es_1, pk_uLn, pk_uLs], by simp (disch := omega) only [es_4, es_3, es_2, es_1, pk_uLn, pk_uLs]; exact z2, by simp (disch := omega) only [es_4, es_3, es_2, es_1, pk_uLn, pk_uLs]; exact z3, ?_⟩
                                          simp (disch := omega) only [es_4, es_3, es_2, es_1, pk_uLn, pk_uLs]
                                          exact hbe) (fun j hj => by simp (disch := omega) only [es_4, es_3, es_2, es_1, pk_uLn]; exact hTo j (by omega)) (by omega) _ _ _ hP hD hS (lv_sub hl [1, 2, 3, 0] rfl)
                refine q_cmp_le (tgt := 182) hx hb d_M_flowed_170 (by decide) (fun h_170 => ?_) (fun h_170 => ?_)
                · refine lv_aload_n hx hb d_M_flowed_182 rfl (lv_at hl 0 rfl) ?_
                  refine q_get 0 1 i_M rfl hx hb hts hown hE hP rfl (by decide) x_937 rfl d_M_flowed_183 ?_
                  refine lv_sipush (v := 313) hx hb d_M_flowed_186 (by decide) ?_
                  refine lv_iload_n hx hb d_M_flowed_189 rfl (lv_at hl 3 rfl) ?_
                  refine q_iadd (v := nI (313 + i)) hx hb d_M_flowed_190 (nI_add 313 i) ?_
                  refine q_lald (k := 313 + i) 1 hx hb hE hP rfl rfl (by omega) (by decide) d_M_flowed_191 ?_
                  refine q_topl (v := S (313 + i)) (by simp (disch := omega) only [es_3, es_2, es_1, pk_uLn, pk_uLs, pk_us, pk_un]; exact hTo _ (by omega)) ?_
                  exact join_192 (S (313 + i)) (by first | exact (if_neg (Int64.not_lt.mpr h_170)).symm | exact (if_pos (Int64.not_le.mp h_170)).symm) _ _ _ hP hD hS (lv_sub hl [0, 1, 2, 3] rfl)
                · refine lv_aload_n hx hb d_M_flowed_173 rfl (lv_at hl 0 rfl) ?_
                  refine q_get 0 9 i_M rfl hx hb hts hown hE hP rfl (by decide) x_945 rfl d_M_flowed_174 ?_
                  refine lv_iload_n hx hb d_M_flowed_177 rfl (lv_at hl 3 rfl) ?_
                  refine q_lald (k := i) 2 hx hb hE hP rfl rfl (by omega) (by decide) d_M_flowed_178 ?_
                  refine q_topl (v := p_nh (pH S) (pF S) (pC S) (S 245) (S 246) (S 247) (S 248) (S 249) la i) ((hN2 i (by omega)).1) ?_
                  refine lv_goto (tgt := 192) hx hb d_M_flowed_179 (by decide) ?_
                  exact join_192 (p_nh (pH S) (pF S) (pC S) (S 245) (S 246) (S 247) (S 248) (S 249) la i) (by first | exact (if_neg (Int64.not_lt.mpr h_170)).symm | exact (if_pos (Int64.not_le.mp h_170)).symm) _ _ _ hP hD hS (lv_sub hl [0, 1, 2, 3] rfl)
        exact loop_81 _ 0 S (by omega) (Or.inl rfl) (fun j hj => absurd hj (Nat.not_lt_zero _)) (fun _ _ => rfl) (Nat.lt_succ_self _) _ _ _ hP hD hS (lv_sub hl [1, 2, 3, 0] rfl)
      · refine lv_aload_n hx hb d_M_flowed_19 rfl (lv_at hl 0 rfl) ?_
        refine lv_iload_n hx hb d_M_flowed_20 rfl (lv_at hl 3 rfl) ?_
        refine cWV (As := [.int (nI k)]) (rest := []) (q9 := 0) (ci := 8) K_M_finds x_1207 hx hb hml hown hts hE hV hS (c_M_finds l D ct st am th bu he S N1 la b r z src op k (by omega) (by omega) _) hP hD hA [0, 1, 2] [] (wr := []) rfl rfl (by decide) (by decide) (by decide) rfl hP rfl rfl hl.1 rfl (Nat.le_of_ble_eq_true rfl) d_M_flowed_21 (Nat.le_of_ble_eq_true rfl) (Nat.le_of_ble_eq_true rfl) ⟨Nat.le_of_ble_eq_true rfl, Nat.le_of_ble_eq_true rfl⟩ (fun v W1 H locs hpost hP hD hS => ?_)
        obtain ⟨nodes1_1, rfl, rfl, hq_21⟩ := hpost
        have hP : va_P D classes [((am 0), .inr (8, [.int th, .ref (am 1), .ref (am 2), .ref (am 3), .ref (am 4), .ref (am 5), .long bu, .long he, .ref (am 6), .ref (am 7)])), ((am 1), .inl (ct 1, 334, .inr (.inl S))), ((am 7), .inl (ct 1, 63, .inr (.inl nodes1_1)))] H := hP
        have hD : va_D A [((am 0), .inr (8, [.int th, .ref (am 1), .ref (am 2), .ref (am 3), .ref (am 4), .ref (am 5), .long bu, .long he, .ref (am 6), .ref (am 7)])), ((am 1), .inl (ct 1, 334, .inr (.inl S))), ((am 7), .inl (ct 1, 63, .inr (.inl nodes1_1)))] := hD
        refine lv_iload_n hx hb d_M_flowed_24 rfl (lv_at hl 2 rfl) ?_
        have join_72 : ∀   (H : Heap) (locs : List Loc) (ls : Array Slot), va_P D classes [((am 0), .inr (8, [.int th, .ref (am 1), .ref (am 2), .ref (am 3), .ref (am 4), .ref (am 5), .long bu, .long he, .ref (am 6), .ref (am 7)])), ((am 1), .inl (ct 1, 334, .inr (.inl S))), ((am 7), .inl (ct 1, 63, .inr (.inl nodes1_1)))] H → va_D A [((am 0), .inr (8, [.int th, .ref (am 1), .ref (am 2), .ref (am 3), .ref (am 4), .ref (am 5), .long bu, .long he, .ref (am 6), .ref (am 7)])), ((am 1), .inl (ct 1, 334, .inr (.inl S))), ((am 7), .inl (ct 1, 63, .inr (.inl nodes1_1)))] → va_S A s.heap H locs → lv_has ls 4 [(0, .ref (am 0)), (1, .int (nI la)), (2, .int (bI (∀ j, j < k → p_okn (pH S) (pF S) (pC S) (S 245) (S 246) (S 247) (S 248) (S 249) la j))), (3, .int (nI k))] → W p l e (rmW 4 0 0 98) s m args below meth c H locs (0) (0) (MQ below (QcW D [((am 0), .inr (8, [.int th, .ref (am 1), .ref (am 2), .ref (am 3), .ref (am 4), .ref (am 5), .long bu, .long he, .ref (am 6), .ref (am 7)])), ((am 1), .inl (ct 1, 334, .inr (.inl S))), ((am 7), .inl (ct 1, 63, .inr (.inl Nd)))] sz (fun v W1 => ∃ (s1 : Nat → Int64) (nodes1 : Nat → Int64), v = some (.int (bI (sPok S la))) ∧ W1 = [((am 0), .inr (8, [.int th, .ref (am 1), .ref (am 2), .ref (am 3), .ref (am 4), .ref (am 5), .long bu, .long he, .ref (am 6), .ref (am 7)])), ((am 1), .inl (ct 1, 334, .inr (.inl s1))), ((am 7), .inl (ct 1, 63, .inr (.inl nodes1)))] ∧ ((sPok S la → PStp la S s1) ∧ (¬ sPok S la → s1 = S)))) args s 0 0 A) (F0 m 72 ls [.int (bI (∀ j, j < (k + 1) → p_okn (pH S) (pF S) (pC S) (S 245) (S 246) (S 247) (S 248) (S 249) la j))]) := by
          intro H locs ls hP hD hS hl
          refine lv_istore_n (lv' := [(2, .int (bI (∀ j, j < (k + 1) → p_okn (pH S) (pF S) (pC S) (S 245) (S 246) (S 247) (S 248) (S 249) la j))), (0, .ref (am 0)), (1, .int (nI la)), (3, .int (nI k))]) hx hb d_M_flowed_72 rfl hl (by decide) rfl (fun ls hl => ?_)
          refine lv_iinc (v := (nI (k + 1))) (lv' := [(3, .int (nI (k + 1))), (2, .int (bI (∀ j, j < (k + 1) → p_okn (pH S) (pF S) (pC S) (S 245) (S 246) (S 247) (S 248) (S 249) la j))), (0, .ref (am 0)), (1, .int (nI la))]) hx hb d_M_flowed_73 hl (k := 3) rfl (nI_1 _) (by decide) rfl (fun ls hl => ?_)
          refine lv_goto (tgt := 14) hx hb d_M_flowed_76 (by decide) ?_
          exact ih_14 (k + 1) nodes1_1 (by omega) (nd_step (by omega) hla hN hq_21) (by omega) _ _ _ hP hD hS (lv_sub hl [2, 3, 1, 0] rfl)
        refine q_ifeq_b (tgt := 71) hx hb d_M_flowed_25 (by decide) (fun h_25 => ?_) (fun h_25 => ?_)
        · refine lv_iconst (v := 0) hx hb d_M_flowed_71 (by decide) ?_
          refine q_topi (v := bI (∀ j, j < (k + 1) → p_okn (pH S) (pF S) (pC S) (S 245) (S 246) (S 247) (S 248) (S 249) la j)) (by first | exact bI_1 (all_s h_25 ⟨h_43, h_64⟩) | exact bI_0 (fun z => h_25 (fun j hj => z j (by omega))) | exact bI_0 (fun z => h_43 (z k (by omega)).1) | exact bI_0 (fun z => h_64 (z k (by omega)).2)) ?_
          exact join_72 _ _ _ hP hD hS (lv_sub hl [0, 1, 2, 3] rfl)
        · refine lv_aload_n hx hb d_M_flowed_28 rfl (lv_at hl 0 rfl) ?_
          refine q_get 0 9 i_M rfl hx hb hts hown hE hP rfl (by decide) x_945 rfl d_M_flowed_29 ?_
          refine lv_iload_n hx hb d_M_flowed_32 rfl (lv_at hl 3 rfl) ?_
          refine q_lald (k := k) 2 hx hb hE hP rfl rfl (by omega) (by decide) d_M_flowed_33 ?_
          refine q_topl (v := p_nh (pH S) (pF S) (pC S) (S 245) (S 246) (S 247) (S 248) (S 249) la k) (hq_21.1.1) ?_
          refine lv_ldc2 (v := (-1000000)) hx hb hown (hts _ (List.mem_cons_of_mem _ x_1223)) d_M_flowed_34 ?_
          refine lv_ldc2 (v := 1000000) hx hb hown (hts _ (List.mem_cons_of_mem _ x_993)) d_M_flowed_37 ?_
          refine cRS (As := [.long (p_nh (pH S) (pF S) (pC S) (S 245) (S 246) (S 247) (S 248) (S 249) la k), .long (-1000000), .long 1000000]) (rest := []) K_M_in x_978 hx hb hml hown hts hE hV hS (c_M_in l D ct st (p_nh (pH S) (pF S) (pC S) (S 245) (S 246) (S 247) (S 248) (S 249) la k) (-1000000) 1000000) (fun k q h => by simp at h) rfl hl.1 rfl (Nat.le_of_ble_eq_true rfl) d_M_flowed_40 (Nat.le_of_ble_eq_true rfl) (Nat.le_of_ble_eq_true rfl) ⟨Nat.le_of_ble_eq_true rfl, Nat.le_of_ble_eq_true rfl⟩ ?_
          refine q_ifeq_b (tgt := 71) hx hb d_M_flowed_43 (by decide) (fun h_43 => ?_) (fun h_43 => ?_)
          · refine lv_iconst (v := 0) hx hb d_M_flowed_71 (by decide) ?_
            refine q_topi (v := bI (∀ j, j < (k + 1) → p_okn (pH S) (pF S) (pC S) (S 245) (S 246) (S 247) (S 248) (S 249) la j)) (by first | exact bI_1 (all_s h_25 ⟨h_43, h_64⟩) | exact bI_0 (fun z => h_25 (fun j hj => z j (by omega))) | exact bI_0 (fun z => h_43 (z k (by omega)).1) | exact bI_0 (fun z => h_64 (z k (by omega)).2)) ?_
            exact join_72 _ _ _ hP hD hS (lv_sub hl [0, 1, 2, 3] rfl)
          · refine lv_aload_n hx hb d_M_flowed_46 rfl (lv_at hl 0 rfl) ?_
            refine q_get 0 9 i_M rfl hx hb hts hown hE hP rfl (by decide) x_945 rfl d_M_flowed_47 ?_
            refine lv_bipush (v := 21) hx hb d_M_flowed_50 (by decide) ?_
            refine lv_iload_n hx hb d_M_flowed_52 rfl (lv_at hl 3 rfl) ?_
            refine q_iadd (v := nI (21 + k)) hx hb d_M_flowed_53 (nI_add 21 k) ?_
            refine q_lald (k := 21 + k) 2 hx hb hE hP rfl rfl (by omega) (by decide) d_M_flowed_54 ?_
            refine q_topl (v := p_nf (pH S) (pF S) (pC S) (S 245) (S 246) (S 247) (S 248) (S 249) la k) (hq_21.1.2.1) ?_
            refine lv_ldc2 (v := (-100000)) hx hb hown (hts _ (List.mem_cons_of_mem _ x_1224)) d_M_flowed_55 ?_
            refine lv_ldc2 (v := 100000) hx hb hown (hts _ (List.mem_cons_of_mem _ x_929)) d_M_flowed_58 ?_
            refine cRS (As := [.long (p_nf (pH S) (pF S) (pC S) (S 245) (S 246) (S 247) (S 248) (S 249) la k), .long (-100000), .long 100000]) (rest := []) K_M_in x_978 hx hb hml hown hts hE hV hS (c_M_in l D ct st (p_nf (pH S) (pF S) (pC S) (S 245) (S 246) (S 247) (S 248) (S 249) la k) (-100000) 100000) (fun k q h => by simp at h) rfl hl.1 rfl (Nat.le_of_ble_eq_true rfl) d_M_flowed_61 (Nat.le_of_ble_eq_true rfl) (Nat.le_of_ble_eq_true rfl) ⟨Nat.le_of_ble_eq_true rfl, Nat.le_of_ble_eq_true rfl⟩ ?_
            refine q_ifeq_b (tgt := 71) hx hb d_M_flowed_64 (by decide) (fun h_64 => ?_) (fun h_64 => ?_)
            · refine lv_iconst (v := 0) hx hb d_M_flowed_71 (by decide) ?_
              refine q_topi (v := bI (∀ j, j < (k + 1) → p_okn (pH S) (pF S) (pC S) (S 245) (S 246) (S 247) (S 248) (S 249) la j)) (by first | exact bI_1 (all_s h_25 ⟨h_43, h_64⟩) | exact bI_0 (fun z => h_25 (fun j hj => z j (by omega))) | exact bI_0 (fun z => h_43 (z k (by omega)).1) | exact bI_0 (fun z => h_64 (z k (by omega)).2)) ?_
              exact join_72 _ _ _ hP hD hS (lv_sub hl [0, 1, 2, 3] rfl)
            · refine lv_iconst (v := 1) hx hb d_M_flowed_67 (by decide) ?_
              refine lv_goto (tgt := 72) hx hb d_M_flowed_68 (by decide) ?_
              refine q_topi (v := bI (∀ j, j < (k + 1) → p_okn (pH S) (pF S) (pC S) (S 245) (S 246) (S 247) (S 248) (S 249) la j)) (by first | exact bI_1 (all_s h_25 ⟨h_43, h_64⟩) | exact bI_0 (fun z => h_25 (fun j hj => z j (by omega))) | exact bI_0 (fun z => h_43 (z k (by omega)).1) | exact bI_0 (fun z => h_64 (z k (by omega)).2)) ?_
              exact join_72 _ _ _ hP hD hS (lv_sub hl [0, 1, 2, 3] rfl)
  exact loop_14 _ 0 Nd (by omega) (fun j hj => absurd hj (Nat.not_lt_zero _)) (Nat.lt_succ_self _) _ _ _ hP hD hS (lv_sub hl [3, 2, 1, 0] rfl)
set_option maxHeartbeats 4000000 in
set_option maxRecDepth 100000 in
theorem c_M_flow_ok (l : Launch) (D : va_G) (ct : Nat → ClassId) (st : Nat → Nat) (am : Nat → Nat) (th : Int32) (bu : Int64) (he : Int64) (S : Nat → Int64) (Nd : Nat → Int64) (la : Nat) (b : Nat) (r : Nat) (z : Nat) (src : Nat) (op : Nat) (tk : Nat) (hPS : PS S la b r z src op) (htk : 1 ≤ tk ∧ tk ≤ 100) (sz : Nat) : Met l y_M_flow (wsy y_M_flow b_M_flow 3 (some .int)) (rmW 5 0 0 121) (PcW D ct st [.ref (am 0), .int (nI tk)] [((am 0), .inr (8, [.int th, .ref (am 1), .ref (am 2), .ref (am 3), .ref (am 4), .ref (am 5), .long bu, .long he, .ref (am 6), .ref (am 7)])), ((am 1), .inl (ct 1, 334, .inr (.inl S))), ((am 7), .inl (ct 1, 63, .inr (.inl Nd)))] sz) (QcW D [((am 0), .inr (8, [.int th, .ref (am 1), .ref (am 2), .ref (am 3), .ref (am 4), .ref (am 5), .long bu, .long he, .ref (am 6), .ref (am 7)])), ((am 1), .inl (ct 1, 334, .inr (.inl S))), ((am 7), .inl (ct 1, 63, .inr (.inl Nd)))] sz (fun v W1 => ∃ (s1 : Nat → Int64) (nodes1 : Nat → Int64) (k9 : Nat), v = some (.int (nI k9)) ∧ W1 = [((am 0), .inr (8, [.int 0, .ref (am 1), .ref (am 2), .ref (am 3), .ref (am 4), .ref (am 5), .long bu, .long he, .ref (am 6), .ref (am 7)])), ((am 1), .inl (ct 1, 334, .inr (.inl s1))), ((am 7), .inl (ct 1, 63, .inr (.inl nodes1)))] ∧ (PS s1 la b r z src op ∧ PChn la S k9 s1 ∧ k9 ≤ tk ∧ (k9 < tk → ¬ sPok s1 la)))) 0 0 (va_A [((am 0), .inr (8, [.int th, .ref (am 1), .ref (am 2), .ref (am 3), .ref (am 4), .ref (am 5), .long bu, .long he, .ref (am 6), .ref (am 7)])), ((am 1), .inl (ct 1, 334, .inr (.inl S))), ((am 7), .inl (ct 1, 63, .inr (.inl Nd)))] sz) := by
  refine enterW (by decide) (Nat.le_of_ble_eq_true rfl) ?_
  intro p e s m args below meth c ls A hx hb hr hml hown hts hlk hin hsz hAe hP hD hA hE hV hS hl
  have hl : lv_has ls 3 [(0, .ref (am 0)), (1, .int (nI tk))] := hl
  refine lv_aload_n hx hb d_M_flow_0 rfl (lv_at hl 0 rfl) ?_
  refine lv_iload_n hx hb d_M_flow_1 rfl (lv_at hl 1 rfl) ?_
  refine lv_i2l (v := lN tk) hx hb d_M_flow_2 (nI_l (by omega)) ?_
  refine lv_lconst (v := 1) hx hb d_M_flow_3 (by decide) ?_
  refine lv_ldc2 (v := 100) hx hb hown (hts _ (List.mem_cons_of_mem _ x_1011)) d_M_flow_4 ?_
  refine cRS (As := [.long (lN tk), .long 1, .long 100]) (rest := [.ref (am 0)]) K_M_in x_978 hx hb hml hown hts hE hV hS (c_M_in l D ct st (lN tk) 1 100) (fun k q h => by simp at h) rfl hl.1 rfl (Nat.le_of_ble_eq_true rfl) d_M_flow_7 (Nat.le_of_ble_eq_true rfl) (Nat.le_of_ble_eq_true rfl) ⟨Nat.le_of_ble_eq_true rfl, Nat.le_of_ble_eq_true rfl⟩ ?_
  refine q_ifne_b (tgt := 17) hx hb d_M_flow_10 (by decide) (fun h_10 => ?_) (fun h_10 => absurd (w_inN (lo := 1) (hi := 100) (by omega) (by omega) (by omega)) h_10)
  refine lv_aload_n hx hb d_M_flow_17 rfl (lv_at hl 0 rfl) ?_
  refine q_get 0 1 i_M rfl hx hb hts hown hE hP rfl (by decide) x_937 rfl d_M_flow_18 ?_
  refine lv_sipush (v := 243) hx hb d_M_flow_21 (by decide) ?_
  refine q_lald (k := 243) 1 hx hb hE hP rfl rfl (by omega) (by decide) d_M_flow_24 ?_
  refine lv_lconst (v := 1) hx hb d_M_flow_25 (by decide) ?_
  refine W.lcmp hx hb d_M_flow_26 ?_
  refine q_cmp_ne (tgt := 34) hx hb d_M_flow_27 (by decide) (fun h_27 => absurd hPS.1 h_27) (fun h_27 => ?_)
  refine lv_iconst (v := 0) hx hb d_M_flow_30 (by decide) ?_
  refine lv_goto (tgt := 35) hx hb d_M_flow_31 (by decide) ?_
  refine q_put (ty := .int) 0 0 (ws1 := [((am 0), .inr (8, [.int 0, .ref (am 1), .ref (am 2), .ref (am 3), .ref (am 4), .ref (am 5), .long bu, .long he, .ref (am 6), .ref (am 7)])), ((am 1), .inl (ct 1, 334, .inr (.inl S))), ((am 7), .inl (ct 1, 63, .inr (.inl Nd)))]) t_M i_M t_M_ok n_M rfl hx hb hts hown hE hP hD hS rfl (by decide) x_936 rfl (by decide +kernel) (rfl) rfl (Nat.le_of_ble_eq_true rfl) rfl d_M_flow_35 (fun H locs hP hD hS => ?_)
  refine lv_iconst (v := 0) hx hb d_M_flow_38 (by decide) ?_
  refine lv_istore_n (lv' := [(2, .int 0), (0, .ref (am 0)), (1, .int (nI tk))]) hx hb d_M_flow_39 rfl hl (by decide) rfl (fun ls hl => ?_)
  have loop_40 : ∀ (n9 : Nat) (k : Nat) (T : Nat → Int64) (N1 : Nat → Int64) (hk : k ≤ tk) (hPT : PS T la b r z src op) (hch : PChn la S k T) (hn9 : tk - k < n9) (H : Heap) (locs : List Loc) (ls : Array Slot), va_P D classes [((am 0), .inr (8, [.int 0, .ref (am 1), .ref (am 2), .ref (am 3), .ref (am 4), .ref (am 5), .long bu, .long he, .ref (am 6), .ref (am 7)])), ((am 1), .inl (ct 1, 334, .inr (.inl T))), ((am 7), .inl (ct 1, 63, .inr (.inl N1)))] H → va_D A [((am 0), .inr (8, [.int 0, .ref (am 1), .ref (am 2), .ref (am 3), .ref (am 4), .ref (am 5), .long bu, .long he, .ref (am 6), .ref (am 7)])), ((am 1), .inl (ct 1, 334, .inr (.inl T))), ((am 7), .inl (ct 1, 63, .inr (.inl N1)))] → va_S A s.heap H locs → lv_has ls 3 [(0, .ref (am 0)), (1, .int (nI tk)), (2, .int (nI k))] → W p l e (rmW 5 0 0 121) s m args below meth c H locs (0) (0) (MQ below (QcW D [((am 0), .inr (8, [.int th, .ref (am 1), .ref (am 2), .ref (am 3), .ref (am 4), .ref (am 5), .long bu, .long he, .ref (am 6), .ref (am 7)])), ((am 1), .inl (ct 1, 334, .inr (.inl S))), ((am 7), .inl (ct 1, 63, .inr (.inl Nd)))] sz (fun v W1 => ∃ (s1 : Nat → Int64) (nodes1 : Nat → Int64) (k9 : Nat), v = some (.int (nI k9)) ∧ W1 = [((am 0), .inr (8, [.int 0, .ref (am 1), .ref (am 2), .ref (am 3), .ref (am 4), .ref (am 5), .long bu, .long he, .ref (am 6), .ref (am 7)])), ((am 1), .inl (ct 1, 334, .inr (.inl s1))), ((am 7), .inl (ct 1, 63, .inr (.inl nodes1)))] ∧ (PS s1 la b r z src op ∧ PChn la S k9 s1 ∧ k9 ≤ tk ∧ (k9 < tk → ¬ sPok s1 la)))) args s 0 0 A) (F0 m 40 ls []) := by
    intro n9
    induction n9 with
    | zero => intro k T N1 hk hPT hch hn9 H locs ls hP hD hS hl; exact absurd hn9 (Nat.not_lt_zero _)
    | succ n9 ih_40 =>
      intro k T N1 hk hPT hch hn9 H locs ls hP hD hS hl
      refine lv_aload_n hx hb d_M_flow_40 rfl (lv_at hl 0 rfl) ?_
      refine q_get 0 0 i_M rfl hx hb hts hown hE hP rfl (by decide) x_936 rfl d_M_flow_41 ?_
      refine lv_if_ne (tgt := 65) hx hb d_M_flow_44 (by decide) (fun h => absurd h (by decide)) (fun _ => ?_)
      refine lv_iload_n hx hb d_M_flow_47 rfl (lv_at hl 2 rfl) ?_
      refine lv_iload_n hx hb d_M_flow_48 rfl (lv_at hl 1 rfl) ?_
      refine q_icmp_ge_n (a := k) (b := tk) (tgt := 65) hx hb d_M_flow_49 (by decide) rfl rfl (by omega) (by omega) (fun h_49 => ?_) (fun h_49 => ?_)
      · refine lv_iload_n hx hb d_M_flow_65 rfl (lv_at hl 2 rfl) ?_
        exact rW_i hx hb hr hlk hAe hS hP hD (Nat.le_of_ble_eq_true rfl) (Nat.le_of_ble_eq_true rfl) d_M_flow_66 ⟨T, N1, k, rfl, rfl, ⟨hPT, hch, hk, fun e => by omega⟩⟩
      · refine lv_aload_n hx hb d_M_flow_52 rfl (lv_at hl 0 rfl) ?_
        refine cWV (As := []) (rest := []) (q9 := 0) (ci := 8) K_M_flowed x_1203 hx hb hml hown hts hE hV hS (c_M_flowed l D ct st am 0 bu he T N1 la b r z src op (hPT) _) hP hD hA [0, 1, 2] [] (wr := []) rfl rfl (by decide) (by decide) (by decide) rfl hP rfl rfl hl.1 rfl (Nat.le_of_ble_eq_true rfl) d_M_flow_53 (Nat.le_of_ble_eq_true rfl) (Nat.le_of_ble_eq_true rfl) ⟨Nat.le_of_ble_eq_true rfl, Nat.le_of_ble_eq_true rfl⟩ (fun v W1 H locs hpost hP hD hS => ?_)
        obtain ⟨s1_1, nodes1_1, rfl, rfl, hq_53⟩ := hpost
        have hP : va_P D classes [((am 0), .inr (8, [.int 0, .ref (am 1), .ref (am 2), .ref (am 3), .ref (am 4), .ref (am 5), .long bu, .long he, .ref (am 6), .ref (am 7)])), ((am 1), .inl (ct 1, 334, .inr (.inl s1_1))), ((am 7), .inl (ct 1, 63, .inr (.inl nodes1_1)))] H := hP
        have hD : va_D A [((am 0), .inr (8, [.int 0, .ref (am 1), .ref (am 2), .ref (am 3), .ref (am 4), .ref (am 5), .long bu, .long he, .ref (am 6), .ref (am 7)])), ((am 1), .inl (ct 1, 334, .inr (.inl s1_1))), ((am 7), .inl (ct 1, 63, .inr (.inl nodes1_1)))] := hD
        refine q_ifeq_b (tgt := 65) hx hb d_M_flow_56 (by decide) (fun h_56 => ?_) (fun h_56 => ?_)
        · refine lv_iload_n hx hb d_M_flow_65 rfl (lv_at hl 2 rfl) ?_
          exact rW_i hx hb hr hlk hAe hS hP hD (Nat.le_of_ble_eq_true rfl) (Nat.le_of_ble_eq_true rfl) d_M_flow_66 ⟨s1_1, nodes1_1, k, rfl, rfl, by rw [hq_53.2 h_56]; exact ⟨hPT, hch, hk, fun _ => h_56⟩⟩
        · refine lv_iinc (v := (nI (k + 1))) (lv' := [(2, .int (nI (k + 1))), (0, .ref (am 0)), (1, .int (nI tk))]) hx hb d_M_flow_59 hl (k := 2) rfl (nI_1 _) (by decide) rfl (fun ls hl => ?_)
          refine lv_goto (tgt := 40) hx hb d_M_flow_62 (by decide) ?_
          exact ih_40 (k + 1) s1_1 nodes1_1 (by omega) (hPT.next h_56 (hq_53.1 h_56)) (hch.ext h_56 (hq_53.1 h_56)) (by omega) _ _ _ hP hD hS (lv_sub hl [1, 2, 0] rfl)
  exact loop_40 _ 0 S Nd (by omega) (hPS) (PChn.zero) (Nat.lt_succ_self _) _ _ _ hP hD hS (lv_sub hl [1, 2, 0] rfl)
set_option maxHeartbeats 4000000 in
set_option maxRecDepth 100000 in
theorem c_M_valve_b1 (l : Launch) (D : va_G) (ct : Nat → ClassId) (st : Nat → Nat) (am : Nat → Nat) (th : Int32) (bu : Int64) (he : Int64) (S : Nat → Int64) (a0 : Int32) (hb0 : ¬ w_in a0.toInt64 0 100) (sz : Nat) : Met l y_M_valve (wsy y_M_valve b_M_valve 3 (some .int)) (rmW 1 0 0 25) (PcW D ct st [.ref (am 0), .int a0] [((am 0), .inr (8, [.int th, .ref (am 1), .ref (am 2), .ref (am 3), .ref (am 4), .ref (am 5), .long bu, .long he, .ref (am 6), .ref (am 7)])), ((am 1), .inl (ct 1, 334, .inr (.inl S)))] sz) (QcW D [((am 0), .inr (8, [.int th, .ref (am 1), .ref (am 2), .ref (am 3), .ref (am 4), .ref (am 5), .long bu, .long he, .ref (am 6), .ref (am 7)])), ((am 1), .inl (ct 1, 334, .inr (.inl S)))] sz (fun v W1 => v = some (.int 0) ∧ W1 = [((am 0), .inr (8, [.int 1, .ref (am 1), .ref (am 2), .ref (am 3), .ref (am 4), .ref (am 5), .long bu, .long he, .ref (am 6), .ref (am 7)])), ((am 1), .inl (ct 1, 334, .inr (.inl S)))] ∧ (True))) 0 0 (va_A [((am 0), .inr (8, [.int th, .ref (am 1), .ref (am 2), .ref (am 3), .ref (am 4), .ref (am 5), .long bu, .long he, .ref (am 6), .ref (am 7)])), ((am 1), .inl (ct 1, 334, .inr (.inl S)))] sz) := by
  refine enterW (by decide) (Nat.le_of_ble_eq_true rfl) ?_
  intro p e s m args below meth c ls A hx hb hr hml hown hts hlk hin hsz hAe hP hD hA hE hV hS hl
  have hl : lv_has ls 3 [(0, .ref (am 0)), (1, .int a0)] := hl
  refine lv_aload_n hx hb d_M_valve_0 rfl (lv_at hl 0 rfl) ?_
  refine lv_iload_n hx hb d_M_valve_1 rfl (lv_at hl 1 rfl) ?_
  refine lv_i2l hx hb d_M_valve_2 rfl ?_
  refine lv_lconst (v := 0) hx hb d_M_valve_3 (by decide) ?_
  refine lv_ldc2 (v := 100) hx hb hown (hts _ (List.mem_cons_of_mem _ x_1011)) d_M_valve_4 ?_
  refine cRS (As := [.long a0.toInt64, .long 0, .long 100]) (rest := [.ref (am 0)]) K_M_in x_978 hx hb hml hown hts hE hV hS (c_M_in l D ct st a0.toInt64 0 100) (fun k q h => by simp at h) rfl hl.1 rfl (Nat.le_of_ble_eq_true rfl) d_M_valve_7 (Nat.le_of_ble_eq_true rfl) (Nat.le_of_ble_eq_true rfl) ⟨Nat.le_of_ble_eq_true rfl, Nat.le_of_ble_eq_true rfl⟩ ?_
  refine q_ifne_b (tgt := 17) hx hb d_M_valve_10 (by decide) (fun h_10 => absurd h_10 hb0) (fun h_10 => ?_)
  refine lv_iconst (v := 1) hx hb d_M_valve_13 (by decide) ?_
  refine lv_goto (tgt := 35) hx hb d_M_valve_14 (by decide) ?_
  refine q_put (ty := .int) 0 0 (ws1 := [((am 0), .inr (8, [.int 1, .ref (am 1), .ref (am 2), .ref (am 3), .ref (am 4), .ref (am 5), .long bu, .long he, .ref (am 6), .ref (am 7)])), ((am 1), .inl (ct 1, 334, .inr (.inl S)))]) t_M i_M t_M_ok n_M rfl hx hb hts hown hE hP hD hS rfl (by decide) x_936 rfl (by decide +kernel) (rfl) rfl (Nat.le_of_ble_eq_true rfl) rfl d_M_valve_35 (fun H locs hP hD hS => ?_)
  refine lv_aload_n hx hb d_M_valve_38 rfl (lv_at hl 0 rfl) ?_
  refine q_get 0 0 i_M rfl hx hb hts hown hE hP rfl (by decide) x_936 rfl d_M_valve_39 ?_
  refine lv_if_le (tgt := 47) hx hb d_M_valve_42 (by decide) (fun h => absurd h (by decide)) (fun _ => ?_)
  refine lv_iconst (v := 0) hx hb d_M_valve_45 (by decide) ?_
  exact rW_i hx hb hr hlk hAe hS hP hD (Nat.le_of_ble_eq_true rfl) (Nat.le_of_ble_eq_true rfl) d_M_valve_46 ⟨rfl, rfl, trivial⟩
set_option maxHeartbeats 4000000 in
set_option maxRecDepth 100000 in
theorem c_M_valve_b2 (l : Launch) (D : va_G) (ct : Nat → ClassId) (st : Nat → Nat) (am : Nat → Nat) (th : Int32) (bu : Int64) (he : Int64) (S : Nat → Int64) (a0 : Int32) (hb1 : w_in a0.toInt64 0 100) (hb0 : ¬ S 243 = 1) (sz : Nat) : Met l y_M_valve (wsy y_M_valve b_M_valve 3 (some .int)) (rmW 1 0 0 25) (PcW D ct st [.ref (am 0), .int a0] [((am 0), .inr (8, [.int th, .ref (am 1), .ref (am 2), .ref (am 3), .ref (am 4), .ref (am 5), .long bu, .long he, .ref (am 6), .ref (am 7)])), ((am 1), .inl (ct 1, 334, .inr (.inl S)))] sz) (QcW D [((am 0), .inr (8, [.int th, .ref (am 1), .ref (am 2), .ref (am 3), .ref (am 4), .ref (am 5), .long bu, .long he, .ref (am 6), .ref (am 7)])), ((am 1), .inl (ct 1, 334, .inr (.inl S)))] sz (fun v W1 => v = some (.int 0) ∧ W1 = [((am 0), .inr (8, [.int 2, .ref (am 1), .ref (am 2), .ref (am 3), .ref (am 4), .ref (am 5), .long bu, .long he, .ref (am 6), .ref (am 7)])), ((am 1), .inl (ct 1, 334, .inr (.inl S)))] ∧ (True))) 0 0 (va_A [((am 0), .inr (8, [.int th, .ref (am 1), .ref (am 2), .ref (am 3), .ref (am 4), .ref (am 5), .long bu, .long he, .ref (am 6), .ref (am 7)])), ((am 1), .inl (ct 1, 334, .inr (.inl S)))] sz) := by
  refine enterW (by decide) (Nat.le_of_ble_eq_true rfl) ?_
  intro p e s m args below meth c ls A hx hb hr hml hown hts hlk hin hsz hAe hP hD hA hE hV hS hl
  have hl : lv_has ls 3 [(0, .ref (am 0)), (1, .int a0)] := hl
  refine lv_aload_n hx hb d_M_valve_0 rfl (lv_at hl 0 rfl) ?_
  refine lv_iload_n hx hb d_M_valve_1 rfl (lv_at hl 1 rfl) ?_
  refine lv_i2l hx hb d_M_valve_2 rfl ?_
  refine lv_lconst (v := 0) hx hb d_M_valve_3 (by decide) ?_
  refine lv_ldc2 (v := 100) hx hb hown (hts _ (List.mem_cons_of_mem _ x_1011)) d_M_valve_4 ?_
  refine cRS (As := [.long a0.toInt64, .long 0, .long 100]) (rest := [.ref (am 0)]) K_M_in x_978 hx hb hml hown hts hE hV hS (c_M_in l D ct st a0.toInt64 0 100) (fun k q h => by simp at h) rfl hl.1 rfl (Nat.le_of_ble_eq_true rfl) d_M_valve_7 (Nat.le_of_ble_eq_true rfl) (Nat.le_of_ble_eq_true rfl) ⟨Nat.le_of_ble_eq_true rfl, Nat.le_of_ble_eq_true rfl⟩ ?_
  refine q_ifne_b (tgt := 17) hx hb d_M_valve_10 (by decide) (fun h_10 => ?_) (fun h_10 => absurd hb1 h_10)
  refine lv_aload_n hx hb d_M_valve_17 rfl (lv_at hl 0 rfl) ?_
  refine q_get 0 1 i_M rfl hx hb hts hown hE hP rfl (by decide) x_937 rfl d_M_valve_18 ?_
  refine lv_sipush (v := 243) hx hb d_M_valve_21 (by decide) ?_
  refine q_lald (k := 243) 1 hx hb hE hP rfl rfl (by omega) (by decide) d_M_valve_24 ?_
  refine lv_lconst (v := 1) hx hb d_M_valve_25 (by decide) ?_
  refine W.lcmp hx hb d_M_valve_26 ?_
  refine q_cmp_ne (tgt := 34) hx hb d_M_valve_27 (by decide) (fun h_27 => ?_) (fun h_27 => absurd h_27 hb0)
  refine lv_iconst (v := 2) hx hb d_M_valve_34 (by decide) ?_
  refine q_put (ty := .int) 0 0 (ws1 := [((am 0), .inr (8, [.int 2, .ref (am 1), .ref (am 2), .ref (am 3), .ref (am 4), .ref (am 5), .long bu, .long he, .ref (am 6), .ref (am 7)])), ((am 1), .inl (ct 1, 334, .inr (.inl S)))]) t_M i_M t_M_ok n_M rfl hx hb hts hown hE hP hD hS rfl (by decide) x_936 rfl (by decide +kernel) (rfl) rfl (Nat.le_of_ble_eq_true rfl) rfl d_M_valve_35 (fun H locs hP hD hS => ?_)
  refine lv_aload_n hx hb d_M_valve_38 rfl (lv_at hl 0 rfl) ?_
  refine q_get 0 0 i_M rfl hx hb hts hown hE hP rfl (by decide) x_936 rfl d_M_valve_39 ?_
  refine lv_if_le (tgt := 47) hx hb d_M_valve_42 (by decide) (fun h => absurd h (by decide)) (fun _ => ?_)
  refine lv_iconst (v := 0) hx hb d_M_valve_45 (by decide) ?_
  exact rW_i hx hb hr hlk hAe hS hP hD (Nat.le_of_ble_eq_true rfl) (Nat.le_of_ble_eq_true rfl) d_M_valve_46 ⟨rfl, rfl, trivial⟩
set_option maxHeartbeats 4000000 in
set_option maxRecDepth 100000 in
theorem c_M_valve_ok (l : Launch) (D : va_G) (ct : Nat → ClassId) (st : Nat → Nat) (am : Nat → Nat) (th : Int32) (bu : Int64) (he : Int64) (S : Nat → Int64) (ok9 : Nat) (od : Nat) (h1 : ok9 ≤ 100) (h2 : S 243 = 1) (h3 : S 249 = lN od) (sz : Nat) : Met l y_M_valve (wsy y_M_valve b_M_valve 3 (some .int)) (rmW 1 0 0 25) (PcW D ct st [.ref (am 0), .int (nI ok9)] [((am 0), .inr (8, [.int th, .ref (am 1), .ref (am 2), .ref (am 3), .ref (am 4), .ref (am 5), .long bu, .long he, .ref (am 6), .ref (am 7)])), ((am 1), .inl (ct 1, 334, .inr (.inl S)))] sz) (QcW D [((am 0), .inr (8, [.int th, .ref (am 1), .ref (am 2), .ref (am 3), .ref (am 4), .ref (am 5), .long bu, .long he, .ref (am 6), .ref (am 7)])), ((am 1), .inl (ct 1, 334, .inr (.inl S)))] sz (fun v W1 => ∃ (s1 : Nat → Int64), v = some (.int (nI od)) ∧ W1 = [((am 0), .inr (8, [.int 0, .ref (am 1), .ref (am 2), .ref (am 3), .ref (am 4), .ref (am 5), .long bu, .long he, .ref (am 6), .ref (am 7)])), ((am 1), .inl (ct 1, 334, .inr (.inl s1)))] ∧ (s1 = vp_updL S 249 (lN ok9)))) 0 0 (va_A [((am 0), .inr (8, [.int th, .ref (am 1), .ref (am 2), .ref (am 3), .ref (am 4), .ref (am 5), .long bu, .long he, .ref (am 6), .ref (am 7)])), ((am 1), .inl (ct 1, 334, .inr (.inl S)))] sz) := by
  refine enterW (by decide) (Nat.le_of_ble_eq_true rfl) ?_
  intro p e s m args below meth c ls A hx hb hr hml hown hts hlk hin hsz hAe hP hD hA hE hV hS hl
  have hl : lv_has ls 3 [(0, .ref (am 0)), (1, .int (nI ok9))] := hl
  refine lv_aload_n hx hb d_M_valve_0 rfl (lv_at hl 0 rfl) ?_
  refine lv_iload_n hx hb d_M_valve_1 rfl (lv_at hl 1 rfl) ?_
  refine lv_i2l (v := lN ok9) hx hb d_M_valve_2 (nI_l (by omega)) ?_
  refine lv_lconst (v := 0) hx hb d_M_valve_3 (by decide) ?_
  refine lv_ldc2 (v := 100) hx hb hown (hts _ (List.mem_cons_of_mem _ x_1011)) d_M_valve_4 ?_
  refine cRS (As := [.long (lN ok9), .long 0, .long 100]) (rest := [.ref (am 0)]) K_M_in x_978 hx hb hml hown hts hE hV hS (c_M_in l D ct st (lN ok9) 0 100) (fun k q h => by simp at h) rfl hl.1 rfl (Nat.le_of_ble_eq_true rfl) d_M_valve_7 (Nat.le_of_ble_eq_true rfl) (Nat.le_of_ble_eq_true rfl) ⟨Nat.le_of_ble_eq_true rfl, Nat.le_of_ble_eq_true rfl⟩ ?_
  refine q_ifne_b (tgt := 17) hx hb d_M_valve_10 (by decide) (fun h_10 => ?_) (fun h_10 => absurd (w_inN (lo := 0) (hi := 100) (by omega) (by omega) (by omega)) h_10)
  refine lv_aload_n hx hb d_M_valve_17 rfl (lv_at hl 0 rfl) ?_
  refine q_get 0 1 i_M rfl hx hb hts hown hE hP rfl (by decide) x_937 rfl d_M_valve_18 ?_
  refine lv_sipush (v := 243) hx hb d_M_valve_21 (by decide) ?_
  refine q_lald (k := 243) 1 hx hb hE hP rfl rfl (by omega) (by decide) d_M_valve_24 ?_
  refine lv_lconst (v := 1) hx hb d_M_valve_25 (by decide) ?_
  refine W.lcmp hx hb d_M_valve_26 ?_
  refine q_cmp_ne (tgt := 34) hx hb d_M_valve_27 (by decide) (fun h_27 => absurd h2 h_27) (fun h_27 => ?_)
  refine lv_iconst (v := 0) hx hb d_M_valve_30 (by decide) ?_
  refine lv_goto (tgt := 35) hx hb d_M_valve_31 (by decide) ?_
  refine q_put (ty := .int) 0 0 (ws1 := [((am 0), .inr (8, [.int 0, .ref (am 1), .ref (am 2), .ref (am 3), .ref (am 4), .ref (am 5), .long bu, .long he, .ref (am 6), .ref (am 7)])), ((am 1), .inl (ct 1, 334, .inr (.inl S)))]) t_M i_M t_M_ok n_M rfl hx hb hts hown hE hP hD hS rfl (by decide) x_936 rfl (by decide +kernel) (rfl) rfl (Nat.le_of_ble_eq_true rfl) rfl d_M_valve_35 (fun H locs hP hD hS => ?_)
  refine lv_aload_n hx hb d_M_valve_38 rfl (lv_at hl 0 rfl) ?_
  refine q_get 0 0 i_M rfl hx hb hts hown hE hP rfl (by decide) x_936 rfl d_M_valve_39 ?_
  refine lv_if_le (tgt := 47) hx hb d_M_valve_42 (by decide) (fun _ => ?_) (fun h => absurd h (by decide))
  refine lv_aload_n hx hb d_M_valve_47 rfl (lv_at hl 0 rfl) ?_
  refine q_get 0 1 i_M rfl hx hb hts hown hE hP rfl (by decide) x_937 rfl d_M_valve_48 ?_
  refine lv_sipush (v := 249) hx hb d_M_valve_51 (by decide) ?_
  refine q_lald (k := 249) 1 hx hb hE hP rfl rfl (by omega) (by decide) d_M_valve_54 ?_
  refine q_topl (v := lN od) (h3) ?_
  refine lv_l2i (v := nI od) hx hb d_M_valve_55 (lN_i _) ?_
  refine lv_istore_n (lv' := [(2, .int (nI od)), (0, .ref (am 0)), (1, .int (nI ok9))]) hx hb d_M_valve_56 rfl hl (by decide) rfl (fun ls hl => ?_)
  refine lv_aload_n hx hb d_M_valve_57 rfl (lv_at hl 1 rfl) ?_
  refine q_get 0 1 i_M rfl hx hb hts hown hE hP rfl (by decide) x_937 rfl d_M_valve_58 ?_
  refine lv_sipush (v := 249) hx hb d_M_valve_61 (by decide) ?_
  refine lv_iload_n hx hb d_M_valve_64 rfl (lv_at hl 2 rfl) ?_
  refine lv_i2l (v := lN ok9) hx hb d_M_valve_65 (nI_l (by omega)) ?_
  obtain ⟨s_1, es_1⟩ : ∃ g9 : Nat → Int64, g9 = vp_updL S 249 (lN ok9) := ⟨_, rfl⟩
  refine q_last (k := 249) 1 (ws1 := [((am 0), .inr (8, [.int 0, .ref (am 1), .ref (am 2), .ref (am 3), .ref (am 4), .ref (am 5), .long bu, .long he, .ref (am 6), .ref (am 7)])), ((am 1), .inl (ct 1, 334, .inr (.inl s_1)))]) es_1 hx hb hE hP hD hS rfl rfl (by omega) (by decide) rfl d_M_valve_66 (fun H locs hP hD hS => ?_)
  refine lv_iload_n hx hb d_M_valve_67 rfl (lv_at hl 0 rfl) ?_
  exact rW_i hx hb hr hlk hAe hS hP hD (Nat.le_of_ble_eq_true rfl) (Nat.le_of_ble_eq_true rfl) d_M_valve_68 ⟨s_1, rfl, rfl, es_1⟩
set_option maxHeartbeats 4000000 in
set_option maxRecDepth 100000 in
theorem c_M_reservoir_b1 (l : Launch) (D : va_G) (ct : Nat → ClassId) (st : Nat → Nat) (am : Nat → Nat) (th : Int32) (bu : Int64) (he : Int64) (S : Nat → Int64) (a0 : Int32) (hb0 : ¬ w_in a0.toInt64 0 2000) (sz : Nat) : Met l y_M_reservoir (wsy y_M_reservoir b_M_reservoir 3 (some .int)) (rmW 1 0 0 25) (PcW D ct st [.ref (am 0), .int a0] [((am 0), .inr (8, [.int th, .ref (am 1), .ref (am 2), .ref (am 3), .ref (am 4), .ref (am 5), .long bu, .long he, .ref (am 6), .ref (am 7)])), ((am 1), .inl (ct 1, 334, .inr (.inl S)))] sz) (QcW D [((am 0), .inr (8, [.int th, .ref (am 1), .ref (am 2), .ref (am 3), .ref (am 4), .ref (am 5), .long bu, .long he, .ref (am 6), .ref (am 7)])), ((am 1), .inl (ct 1, 334, .inr (.inl S)))] sz (fun v W1 => v = some (.int 0) ∧ W1 = [((am 0), .inr (8, [.int 1, .ref (am 1), .ref (am 2), .ref (am 3), .ref (am 4), .ref (am 5), .long bu, .long he, .ref (am 6), .ref (am 7)])), ((am 1), .inl (ct 1, 334, .inr (.inl S)))] ∧ (True))) 0 0 (va_A [((am 0), .inr (8, [.int th, .ref (am 1), .ref (am 2), .ref (am 3), .ref (am 4), .ref (am 5), .long bu, .long he, .ref (am 6), .ref (am 7)])), ((am 1), .inl (ct 1, 334, .inr (.inl S)))] sz) := by
  refine enterW (by decide) (Nat.le_of_ble_eq_true rfl) ?_
  intro p e s m args below meth c ls A hx hb hr hml hown hts hlk hin hsz hAe hP hD hA hE hV hS hl
  have hl : lv_has ls 3 [(0, .ref (am 0)), (1, .int a0)] := hl
  refine lv_aload_n hx hb d_M_reservoir_0 rfl (lv_at hl 0 rfl) ?_
  refine lv_iload_n hx hb d_M_reservoir_1 rfl (lv_at hl 1 rfl) ?_
  refine lv_i2l hx hb d_M_reservoir_2 rfl ?_
  refine lv_lconst (v := 0) hx hb d_M_reservoir_3 (by decide) ?_
  refine lv_ldc2 (v := 2000) hx hb hown (hts _ (List.mem_cons_of_mem _ x_935)) d_M_reservoir_4 ?_
  refine cRS (As := [.long a0.toInt64, .long 0, .long 2000]) (rest := [.ref (am 0)]) K_M_in x_978 hx hb hml hown hts hE hV hS (c_M_in l D ct st a0.toInt64 0 2000) (fun k q h => by simp at h) rfl hl.1 rfl (Nat.le_of_ble_eq_true rfl) d_M_reservoir_7 (Nat.le_of_ble_eq_true rfl) (Nat.le_of_ble_eq_true rfl) ⟨Nat.le_of_ble_eq_true rfl, Nat.le_of_ble_eq_true rfl⟩ ?_
  refine q_ifne_b (tgt := 17) hx hb d_M_reservoir_10 (by decide) (fun h_10 => absurd h_10 hb0) (fun h_10 => ?_)
  refine lv_iconst (v := 1) hx hb d_M_reservoir_13 (by decide) ?_
  refine lv_goto (tgt := 35) hx hb d_M_reservoir_14 (by decide) ?_
  refine q_put (ty := .int) 0 0 (ws1 := [((am 0), .inr (8, [.int 1, .ref (am 1), .ref (am 2), .ref (am 3), .ref (am 4), .ref (am 5), .long bu, .long he, .ref (am 6), .ref (am 7)])), ((am 1), .inl (ct 1, 334, .inr (.inl S)))]) t_M i_M t_M_ok n_M rfl hx hb hts hown hE hP hD hS rfl (by decide) x_936 rfl (by decide +kernel) (rfl) rfl (Nat.le_of_ble_eq_true rfl) rfl d_M_reservoir_35 (fun H locs hP hD hS => ?_)
  refine lv_aload_n hx hb d_M_reservoir_38 rfl (lv_at hl 0 rfl) ?_
  refine q_get 0 0 i_M rfl hx hb hts hown hE hP rfl (by decide) x_936 rfl d_M_reservoir_39 ?_
  refine lv_if_le (tgt := 47) hx hb d_M_reservoir_42 (by decide) (fun h => absurd h (by decide)) (fun _ => ?_)
  refine lv_iconst (v := 0) hx hb d_M_reservoir_45 (by decide) ?_
  exact rW_i hx hb hr hlk hAe hS hP hD (Nat.le_of_ble_eq_true rfl) (Nat.le_of_ble_eq_true rfl) d_M_reservoir_46 ⟨rfl, rfl, trivial⟩
set_option maxHeartbeats 4000000 in
set_option maxRecDepth 100000 in
theorem c_M_reservoir_b2 (l : Launch) (D : va_G) (ct : Nat → ClassId) (st : Nat → Nat) (am : Nat → Nat) (th : Int32) (bu : Int64) (he : Int64) (S : Nat → Int64) (a0 : Int32) (hb1 : w_in a0.toInt64 0 2000) (hb0 : ¬ S 243 = 1) (sz : Nat) : Met l y_M_reservoir (wsy y_M_reservoir b_M_reservoir 3 (some .int)) (rmW 1 0 0 25) (PcW D ct st [.ref (am 0), .int a0] [((am 0), .inr (8, [.int th, .ref (am 1), .ref (am 2), .ref (am 3), .ref (am 4), .ref (am 5), .long bu, .long he, .ref (am 6), .ref (am 7)])), ((am 1), .inl (ct 1, 334, .inr (.inl S)))] sz) (QcW D [((am 0), .inr (8, [.int th, .ref (am 1), .ref (am 2), .ref (am 3), .ref (am 4), .ref (am 5), .long bu, .long he, .ref (am 6), .ref (am 7)])), ((am 1), .inl (ct 1, 334, .inr (.inl S)))] sz (fun v W1 => v = some (.int 0) ∧ W1 = [((am 0), .inr (8, [.int 2, .ref (am 1), .ref (am 2), .ref (am 3), .ref (am 4), .ref (am 5), .long bu, .long he, .ref (am 6), .ref (am 7)])), ((am 1), .inl (ct 1, 334, .inr (.inl S)))] ∧ (True))) 0 0 (va_A [((am 0), .inr (8, [.int th, .ref (am 1), .ref (am 2), .ref (am 3), .ref (am 4), .ref (am 5), .long bu, .long he, .ref (am 6), .ref (am 7)])), ((am 1), .inl (ct 1, 334, .inr (.inl S)))] sz) := by
  refine enterW (by decide) (Nat.le_of_ble_eq_true rfl) ?_
  intro p e s m args below meth c ls A hx hb hr hml hown hts hlk hin hsz hAe hP hD hA hE hV hS hl
  have hl : lv_has ls 3 [(0, .ref (am 0)), (1, .int a0)] := hl
  refine lv_aload_n hx hb d_M_reservoir_0 rfl (lv_at hl 0 rfl) ?_
  refine lv_iload_n hx hb d_M_reservoir_1 rfl (lv_at hl 1 rfl) ?_
  refine lv_i2l hx hb d_M_reservoir_2 rfl ?_
  refine lv_lconst (v := 0) hx hb d_M_reservoir_3 (by decide) ?_
  refine lv_ldc2 (v := 2000) hx hb hown (hts _ (List.mem_cons_of_mem _ x_935)) d_M_reservoir_4 ?_
  refine cRS (As := [.long a0.toInt64, .long 0, .long 2000]) (rest := [.ref (am 0)]) K_M_in x_978 hx hb hml hown hts hE hV hS (c_M_in l D ct st a0.toInt64 0 2000) (fun k q h => by simp at h) rfl hl.1 rfl (Nat.le_of_ble_eq_true rfl) d_M_reservoir_7 (Nat.le_of_ble_eq_true rfl) (Nat.le_of_ble_eq_true rfl) ⟨Nat.le_of_ble_eq_true rfl, Nat.le_of_ble_eq_true rfl⟩ ?_
  refine q_ifne_b (tgt := 17) hx hb d_M_reservoir_10 (by decide) (fun h_10 => ?_) (fun h_10 => absurd hb1 h_10)
  refine lv_aload_n hx hb d_M_reservoir_17 rfl (lv_at hl 0 rfl) ?_
  refine q_get 0 1 i_M rfl hx hb hts hown hE hP rfl (by decide) x_937 rfl d_M_reservoir_18 ?_
  refine lv_sipush (v := 243) hx hb d_M_reservoir_21 (by decide) ?_
  refine q_lald (k := 243) 1 hx hb hE hP rfl rfl (by omega) (by decide) d_M_reservoir_24 ?_
  refine lv_lconst (v := 1) hx hb d_M_reservoir_25 (by decide) ?_
  refine W.lcmp hx hb d_M_reservoir_26 ?_
  refine q_cmp_ne (tgt := 34) hx hb d_M_reservoir_27 (by decide) (fun h_27 => ?_) (fun h_27 => absurd h_27 hb0)
  refine lv_iconst (v := 2) hx hb d_M_reservoir_34 (by decide) ?_
  refine q_put (ty := .int) 0 0 (ws1 := [((am 0), .inr (8, [.int 2, .ref (am 1), .ref (am 2), .ref (am 3), .ref (am 4), .ref (am 5), .long bu, .long he, .ref (am 6), .ref (am 7)])), ((am 1), .inl (ct 1, 334, .inr (.inl S)))]) t_M i_M t_M_ok n_M rfl hx hb hts hown hE hP hD hS rfl (by decide) x_936 rfl (by decide +kernel) (rfl) rfl (Nat.le_of_ble_eq_true rfl) rfl d_M_reservoir_35 (fun H locs hP hD hS => ?_)
  refine lv_aload_n hx hb d_M_reservoir_38 rfl (lv_at hl 0 rfl) ?_
  refine q_get 0 0 i_M rfl hx hb hts hown hE hP rfl (by decide) x_936 rfl d_M_reservoir_39 ?_
  refine lv_if_le (tgt := 47) hx hb d_M_reservoir_42 (by decide) (fun h => absurd h (by decide)) (fun _ => ?_)
  refine lv_iconst (v := 0) hx hb d_M_reservoir_45 (by decide) ?_
  exact rW_i hx hb hr hlk hAe hS hP hD (Nat.le_of_ble_eq_true rfl) (Nat.le_of_ble_eq_true rfl) d_M_reservoir_46 ⟨rfl, rfl, trivial⟩
set_option maxHeartbeats 4000000 in
set_option maxRecDepth 100000 in
theorem c_M_reservoir_ok (l : Launch) (D : va_G) (ct : Nat → ClassId) (st : Nat → Nat) (am : Nat → Nat) (th : Int32) (bu : Int64) (he : Int64) (S : Nat → Int64) (ok9 : Nat) (od : Nat) (h1 : ok9 ≤ 2000) (h2 : S 243 = 1) (h3 : S 248 = lN od) (sz : Nat) : Met l y_M_reservoir (wsy y_M_reservoir b_M_reservoir 3 (some .int)) (rmW 1 0 0 25) (PcW D ct st [.ref (am 0), .int (nI ok9)] [((am 0), .inr (8, [.int th, .ref (am 1), .ref (am 2), .ref (am 3), .ref (am 4), .ref (am 5), .long bu, .long he, .ref (am 6), .ref (am 7)])), ((am 1), .inl (ct 1, 334, .inr (.inl S)))] sz) (QcW D [((am 0), .inr (8, [.int th, .ref (am 1), .ref (am 2), .ref (am 3), .ref (am 4), .ref (am 5), .long bu, .long he, .ref (am 6), .ref (am 7)])), ((am 1), .inl (ct 1, 334, .inr (.inl S)))] sz (fun v W1 => ∃ (s1 : Nat → Int64), v = some (.int (nI od)) ∧ W1 = [((am 0), .inr (8, [.int 0, .ref (am 1), .ref (am 2), .ref (am 3), .ref (am 4), .ref (am 5), .long bu, .long he, .ref (am 6), .ref (am 7)])), ((am 1), .inl (ct 1, 334, .inr (.inl s1)))] ∧ (s1 = vp_updL S 248 (lN ok9)))) 0 0 (va_A [((am 0), .inr (8, [.int th, .ref (am 1), .ref (am 2), .ref (am 3), .ref (am 4), .ref (am 5), .long bu, .long he, .ref (am 6), .ref (am 7)])), ((am 1), .inl (ct 1, 334, .inr (.inl S)))] sz) := by
  refine enterW (by decide) (Nat.le_of_ble_eq_true rfl) ?_
  intro p e s m args below meth c ls A hx hb hr hml hown hts hlk hin hsz hAe hP hD hA hE hV hS hl
  have hl : lv_has ls 3 [(0, .ref (am 0)), (1, .int (nI ok9))] := hl
  refine lv_aload_n hx hb d_M_reservoir_0 rfl (lv_at hl 0 rfl) ?_
  refine lv_iload_n hx hb d_M_reservoir_1 rfl (lv_at hl 1 rfl) ?_
  refine lv_i2l (v := lN ok9) hx hb d_M_reservoir_2 (nI_l (by omega)) ?_
  refine lv_lconst (v := 0) hx hb d_M_reservoir_3 (by decide) ?_
  refine lv_ldc2 (v := 2000) hx hb hown (hts _ (List.mem_cons_of_mem _ x_935)) d_M_reservoir_4 ?_
  refine cRS (As := [.long (lN ok9), .long 0, .long 2000]) (rest := [.ref (am 0)]) K_M_in x_978 hx hb hml hown hts hE hV hS (c_M_in l D ct st (lN ok9) 0 2000) (fun k q h => by simp at h) rfl hl.1 rfl (Nat.le_of_ble_eq_true rfl) d_M_reservoir_7 (Nat.le_of_ble_eq_true rfl) (Nat.le_of_ble_eq_true rfl) ⟨Nat.le_of_ble_eq_true rfl, Nat.le_of_ble_eq_true rfl⟩ ?_
  refine q_ifne_b (tgt := 17) hx hb d_M_reservoir_10 (by decide) (fun h_10 => ?_) (fun h_10 => absurd (w_inN (lo := 0) (hi := 2000) (by omega) (by omega) (by omega)) h_10)
  refine lv_aload_n hx hb d_M_reservoir_17 rfl (lv_at hl 0 rfl) ?_
  refine q_get 0 1 i_M rfl hx hb hts hown hE hP rfl (by decide) x_937 rfl d_M_reservoir_18 ?_
  refine lv_sipush (v := 243) hx hb d_M_reservoir_21 (by decide) ?_
  refine q_lald (k := 243) 1 hx hb hE hP rfl rfl (by omega) (by decide) d_M_reservoir_24 ?_
  refine lv_lconst (v := 1) hx hb d_M_reservoir_25 (by decide) ?_
  refine W.lcmp hx hb d_M_reservoir_26 ?_
  refine q_cmp_ne (tgt := 34) hx hb d_M_reservoir_27 (by decide) (fun h_27 => absurd h2 h_27) (fun h_27 => ?_)
  refine lv_iconst (v := 0) hx hb d_M_reservoir_30 (by decide) ?_
  refine lv_goto (tgt := 35) hx hb d_M_reservoir_31 (by decide) ?_
  refine q_put (ty := .int) 0 0 (ws1 := [((am 0), .inr (8, [.int 0, .ref (am 1), .ref (am 2), .ref (am 3), .ref (am 4), .ref (am 5), .long bu, .long he, .ref (am 6), .ref (am 7)])), ((am 1), .inl (ct 1, 334, .inr (.inl S)))]) t_M i_M t_M_ok n_M rfl hx hb hts hown hE hP hD hS rfl (by decide) x_936 rfl (by decide +kernel) (rfl) rfl (Nat.le_of_ble_eq_true rfl) rfl d_M_reservoir_35 (fun H locs hP hD hS => ?_)
  refine lv_aload_n hx hb d_M_reservoir_38 rfl (lv_at hl 0 rfl) ?_
  refine q_get 0 0 i_M rfl hx hb hts hown hE hP rfl (by decide) x_936 rfl d_M_reservoir_39 ?_
  refine lv_if_le (tgt := 47) hx hb d_M_reservoir_42 (by decide) (fun _ => ?_) (fun h => absurd h (by decide))
  refine lv_aload_n hx hb d_M_reservoir_47 rfl (lv_at hl 0 rfl) ?_
  refine q_get 0 1 i_M rfl hx hb hts hown hE hP rfl (by decide) x_937 rfl d_M_reservoir_48 ?_
  refine lv_sipush (v := 248) hx hb d_M_reservoir_51 (by decide) ?_
  refine q_lald (k := 248) 1 hx hb hE hP rfl rfl (by omega) (by decide) d_M_reservoir_54 ?_
  refine q_topl (v := lN od) (h3) ?_
  refine lv_l2i (v := nI od) hx hb d_M_reservoir_55 (lN_i _) ?_
  refine lv_istore_n (lv' := [(2, .int (nI od)), (0, .ref (am 0)), (1, .int (nI ok9))]) hx hb d_M_reservoir_56 rfl hl (by decide) rfl (fun ls hl => ?_)
  refine lv_aload_n hx hb d_M_reservoir_57 rfl (lv_at hl 1 rfl) ?_
  refine q_get 0 1 i_M rfl hx hb hts hown hE hP rfl (by decide) x_937 rfl d_M_reservoir_58 ?_
  refine lv_sipush (v := 248) hx hb d_M_reservoir_61 (by decide) ?_
  refine lv_iload_n hx hb d_M_reservoir_64 rfl (lv_at hl 2 rfl) ?_
  refine lv_i2l (v := lN ok9) hx hb d_M_reservoir_65 (nI_l (by omega)) ?_
  obtain ⟨s_1, es_1⟩ : ∃ g9 : Nat → Int64, g9 = vp_updL S 248 (lN ok9) := ⟨_, rfl⟩
  refine q_last (k := 248) 1 (ws1 := [((am 0), .inr (8, [.int 0, .ref (am 1), .ref (am 2), .ref (am 3), .ref (am 4), .ref (am 5), .long bu, .long he, .ref (am 6), .ref (am 7)])), ((am 1), .inl (ct 1, 334, .inr (.inl s_1)))]) es_1 hx hb hE hP hD hS rfl rfl (by omega) (by decide) rfl d_M_reservoir_66 (fun H locs hP hD hS => ?_)
  refine lv_iload_n hx hb d_M_reservoir_67 rfl (lv_at hl 0 rfl) ?_
  exact rW_i hx hb hr hlk hAe hS hP hD (Nat.le_of_ble_eq_true rfl) (Nat.le_of_ble_eq_true rfl) d_M_reservoir_68 ⟨s_1, rfl, rfl, es_1⟩
set_option maxHeartbeats 4000000 in
set_option maxRecDepth 100000 in
theorem c_M_flow_b1 (l : Launch) (D : va_G) (ct : Nat → ClassId) (st : Nat → Nat) (am : Nat → Nat) (th : Int32) (bu : Int64) (he : Int64) (S : Nat → Int64) (a0 : Int32) (hb0 : ¬ w_in a0.toInt64 1 100) (sz : Nat) : Met l y_M_flow (wsy y_M_flow b_M_flow 3 (some .int)) (rmW 1 0 0 25) (PcW D ct st [.ref (am 0), .int a0] [((am 0), .inr (8, [.int th, .ref (am 1), .ref (am 2), .ref (am 3), .ref (am 4), .ref (am 5), .long bu, .long he, .ref (am 6), .ref (am 7)])), ((am 1), .inl (ct 1, 334, .inr (.inl S)))] sz) (QcW D [((am 0), .inr (8, [.int th, .ref (am 1), .ref (am 2), .ref (am 3), .ref (am 4), .ref (am 5), .long bu, .long he, .ref (am 6), .ref (am 7)])), ((am 1), .inl (ct 1, 334, .inr (.inl S)))] sz (fun v W1 => v = some (.int 0) ∧ W1 = [((am 0), .inr (8, [.int 1, .ref (am 1), .ref (am 2), .ref (am 3), .ref (am 4), .ref (am 5), .long bu, .long he, .ref (am 6), .ref (am 7)])), ((am 1), .inl (ct 1, 334, .inr (.inl S)))] ∧ (True))) 0 0 (va_A [((am 0), .inr (8, [.int th, .ref (am 1), .ref (am 2), .ref (am 3), .ref (am 4), .ref (am 5), .long bu, .long he, .ref (am 6), .ref (am 7)])), ((am 1), .inl (ct 1, 334, .inr (.inl S)))] sz) := by
  refine enterW (by decide) (Nat.le_of_ble_eq_true rfl) ?_
  intro p e s m args below meth c ls A hx hb hr hml hown hts hlk hin hsz hAe hP hD hA hE hV hS hl
  have hl : lv_has ls 3 [(0, .ref (am 0)), (1, .int a0)] := hl
  refine lv_aload_n hx hb d_M_flow_0 rfl (lv_at hl 0 rfl) ?_
  refine lv_iload_n hx hb d_M_flow_1 rfl (lv_at hl 1 rfl) ?_
  refine lv_i2l hx hb d_M_flow_2 rfl ?_
  refine lv_lconst (v := 1) hx hb d_M_flow_3 (by decide) ?_
  refine lv_ldc2 (v := 100) hx hb hown (hts _ (List.mem_cons_of_mem _ x_1011)) d_M_flow_4 ?_
  refine cRS (As := [.long a0.toInt64, .long 1, .long 100]) (rest := [.ref (am 0)]) K_M_in x_978 hx hb hml hown hts hE hV hS (c_M_in l D ct st a0.toInt64 1 100) (fun k q h => by simp at h) rfl hl.1 rfl (Nat.le_of_ble_eq_true rfl) d_M_flow_7 (Nat.le_of_ble_eq_true rfl) (Nat.le_of_ble_eq_true rfl) ⟨Nat.le_of_ble_eq_true rfl, Nat.le_of_ble_eq_true rfl⟩ ?_
  refine q_ifne_b (tgt := 17) hx hb d_M_flow_10 (by decide) (fun h_10 => absurd h_10 hb0) (fun h_10 => ?_)
  refine lv_iconst (v := 1) hx hb d_M_flow_13 (by decide) ?_
  refine lv_goto (tgt := 35) hx hb d_M_flow_14 (by decide) ?_
  refine q_put (ty := .int) 0 0 (ws1 := [((am 0), .inr (8, [.int 1, .ref (am 1), .ref (am 2), .ref (am 3), .ref (am 4), .ref (am 5), .long bu, .long he, .ref (am 6), .ref (am 7)])), ((am 1), .inl (ct 1, 334, .inr (.inl S)))]) t_M i_M t_M_ok n_M rfl hx hb hts hown hE hP hD hS rfl (by decide) x_936 rfl (by decide +kernel) (rfl) rfl (Nat.le_of_ble_eq_true rfl) rfl d_M_flow_35 (fun H locs hP hD hS => ?_)
  refine lv_iconst (v := 0) hx hb d_M_flow_38 (by decide) ?_
  refine lv_istore_n (lv' := [(2, .int 0), (0, .ref (am 0)), (1, .int a0)]) hx hb d_M_flow_39 rfl hl (by decide) rfl (fun ls hl => ?_)
  refine lv_aload_n hx hb d_M_flow_40 rfl (lv_at hl 1 rfl) ?_
  refine q_get 0 0 i_M rfl hx hb hts hown hE hP rfl (by decide) x_936 rfl d_M_flow_41 ?_
  refine lv_if_ne (tgt := 65) hx hb d_M_flow_44 (by decide) (fun _ => ?_) (fun h => absurd h (by decide))
  refine lv_iload_n hx hb d_M_flow_65 rfl (lv_at hl 0 rfl) ?_
  exact rW_i hx hb hr hlk hAe hS hP hD (Nat.le_of_ble_eq_true rfl) (Nat.le_of_ble_eq_true rfl) d_M_flow_66 ⟨rfl, rfl, trivial⟩
set_option maxHeartbeats 4000000 in
set_option maxRecDepth 100000 in
theorem c_M_flow_b2 (l : Launch) (D : va_G) (ct : Nat → ClassId) (st : Nat → Nat) (am : Nat → Nat) (th : Int32) (bu : Int64) (he : Int64) (S : Nat → Int64) (a0 : Int32) (hb1 : w_in a0.toInt64 1 100) (hb0 : ¬ S 243 = 1) (sz : Nat) : Met l y_M_flow (wsy y_M_flow b_M_flow 3 (some .int)) (rmW 1 0 0 25) (PcW D ct st [.ref (am 0), .int a0] [((am 0), .inr (8, [.int th, .ref (am 1), .ref (am 2), .ref (am 3), .ref (am 4), .ref (am 5), .long bu, .long he, .ref (am 6), .ref (am 7)])), ((am 1), .inl (ct 1, 334, .inr (.inl S)))] sz) (QcW D [((am 0), .inr (8, [.int th, .ref (am 1), .ref (am 2), .ref (am 3), .ref (am 4), .ref (am 5), .long bu, .long he, .ref (am 6), .ref (am 7)])), ((am 1), .inl (ct 1, 334, .inr (.inl S)))] sz (fun v W1 => v = some (.int 0) ∧ W1 = [((am 0), .inr (8, [.int 2, .ref (am 1), .ref (am 2), .ref (am 3), .ref (am 4), .ref (am 5), .long bu, .long he, .ref (am 6), .ref (am 7)])), ((am 1), .inl (ct 1, 334, .inr (.inl S)))] ∧ (True))) 0 0 (va_A [((am 0), .inr (8, [.int th, .ref (am 1), .ref (am 2), .ref (am 3), .ref (am 4), .ref (am 5), .long bu, .long he, .ref (am 6), .ref (am 7)])), ((am 1), .inl (ct 1, 334, .inr (.inl S)))] sz) := by
  refine enterW (by decide) (Nat.le_of_ble_eq_true rfl) ?_
  intro p e s m args below meth c ls A hx hb hr hml hown hts hlk hin hsz hAe hP hD hA hE hV hS hl
  have hl : lv_has ls 3 [(0, .ref (am 0)), (1, .int a0)] := hl
  refine lv_aload_n hx hb d_M_flow_0 rfl (lv_at hl 0 rfl) ?_
  refine lv_iload_n hx hb d_M_flow_1 rfl (lv_at hl 1 rfl) ?_
  refine lv_i2l hx hb d_M_flow_2 rfl ?_
  refine lv_lconst (v := 1) hx hb d_M_flow_3 (by decide) ?_
  refine lv_ldc2 (v := 100) hx hb hown (hts _ (List.mem_cons_of_mem _ x_1011)) d_M_flow_4 ?_
  refine cRS (As := [.long a0.toInt64, .long 1, .long 100]) (rest := [.ref (am 0)]) K_M_in x_978 hx hb hml hown hts hE hV hS (c_M_in l D ct st a0.toInt64 1 100) (fun k q h => by simp at h) rfl hl.1 rfl (Nat.le_of_ble_eq_true rfl) d_M_flow_7 (Nat.le_of_ble_eq_true rfl) (Nat.le_of_ble_eq_true rfl) ⟨Nat.le_of_ble_eq_true rfl, Nat.le_of_ble_eq_true rfl⟩ ?_
  refine q_ifne_b (tgt := 17) hx hb d_M_flow_10 (by decide) (fun h_10 => ?_) (fun h_10 => absurd hb1 h_10)
  refine lv_aload_n hx hb d_M_flow_17 rfl (lv_at hl 0 rfl) ?_
  refine q_get 0 1 i_M rfl hx hb hts hown hE hP rfl (by decide) x_937 rfl d_M_flow_18 ?_
  refine lv_sipush (v := 243) hx hb d_M_flow_21 (by decide) ?_
  refine q_lald (k := 243) 1 hx hb hE hP rfl rfl (by omega) (by decide) d_M_flow_24 ?_
  refine lv_lconst (v := 1) hx hb d_M_flow_25 (by decide) ?_
  refine W.lcmp hx hb d_M_flow_26 ?_
  refine q_cmp_ne (tgt := 34) hx hb d_M_flow_27 (by decide) (fun h_27 => ?_) (fun h_27 => absurd h_27 hb0)
  refine lv_iconst (v := 2) hx hb d_M_flow_34 (by decide) ?_
  refine q_put (ty := .int) 0 0 (ws1 := [((am 0), .inr (8, [.int 2, .ref (am 1), .ref (am 2), .ref (am 3), .ref (am 4), .ref (am 5), .long bu, .long he, .ref (am 6), .ref (am 7)])), ((am 1), .inl (ct 1, 334, .inr (.inl S)))]) t_M i_M t_M_ok n_M rfl hx hb hts hown hE hP hD hS rfl (by decide) x_936 rfl (by decide +kernel) (rfl) rfl (Nat.le_of_ble_eq_true rfl) rfl d_M_flow_35 (fun H locs hP hD hS => ?_)
  refine lv_iconst (v := 0) hx hb d_M_flow_38 (by decide) ?_
  refine lv_istore_n (lv' := [(2, .int 0), (0, .ref (am 0)), (1, .int a0)]) hx hb d_M_flow_39 rfl hl (by decide) rfl (fun ls hl => ?_)
  refine lv_aload_n hx hb d_M_flow_40 rfl (lv_at hl 1 rfl) ?_
  refine q_get 0 0 i_M rfl hx hb hts hown hE hP rfl (by decide) x_936 rfl d_M_flow_41 ?_
  refine lv_if_ne (tgt := 65) hx hb d_M_flow_44 (by decide) (fun _ => ?_) (fun h => absurd h (by decide))
  refine lv_iload_n hx hb d_M_flow_65 rfl (lv_at hl 0 rfl) ?_
  exact rW_i hx hb hr hlk hAe hS hP hD (Nat.le_of_ble_eq_true rfl) (Nat.le_of_ble_eq_true rfl) d_M_flow_66 ⟨rfl, rfl, trivial⟩
set_option maxHeartbeats 4000000 in
set_option maxRecDepth 100000 in
theorem c_M_pipe_ok (l : Launch) (D : va_G) (ct : Nat → ClassId) (st : Nat → Nat) (am : Nat → Nat) (th : Int32) (bu : Int64) (he : Int64) (S : Nat → Int64) (re : Nat) (im : Nat) (fr : Nat) (lo9 : Nat) (hd : Nat) (fl : Int32) (h1 : 1 ≤ re ∧ re ≤ 20) (h2 : 1 ≤ im ∧ im ≤ 50) (h3 : fr ≤ 20) (h4 : 1 ≤ lo9 ∧ lo9 ≤ 50) (h5 : hd ≤ 2000) (h6 : w_in fl.toInt64 (-100) 100) (sz : Nat) : Met l y_M_pipe (wsy y_M_pipe b_M_pipe 9 (none)) (rmW 1 0 0 25) (PcW D ct st [.ref (am 0), .int (nI re), .int (nI im), .int (nI fr), .int (nI lo9), .int (nI hd), .int fl] [((am 0), .inr (8, [.int th, .ref (am 1), .ref (am 2), .ref (am 3), .ref (am 4), .ref (am 5), .long bu, .long he, .ref (am 6), .ref (am 7)])), ((am 1), .inl (ct 1, 334, .inr (.inl S)))] sz) (QcW D [((am 0), .inr (8, [.int th, .ref (am 1), .ref (am 2), .ref (am 3), .ref (am 4), .ref (am 5), .long bu, .long he, .ref (am 6), .ref (am 7)])), ((am 1), .inl (ct 1, 334, .inr (.inl S)))] sz (fun v W1 => ∃ (s1 : Nat → Int64), v = none ∧ W1 = [((am 0), .inr (8, [.int 0, .ref (am 1), .ref (am 2), .ref (am 3), .ref (am 4), .ref (am 5), .long bu, .long he, .ref (am 6), .ref (am 7)])), ((am 1), .inl (ct 1, 334, .inr (.inl s1)))] ∧ (s1 243 = 1 ∧ s1 244 = lN re ∧ s1 245 = lN im ∧ s1 246 = lN fr ∧ s1 247 = lN lo9 ∧ s1 248 = lN hd ∧ s1 249 = lN 100 ∧ (∀ j, j < 21 → s1 (250 + j) = lN hd ∧ s1 (271 + j) = fl.toInt64 ∧ s1 (292 + j) = 0 ∧ s1 (313 + j) = lN hd) ∧ ∀ j, j < 243 → s1 j = S j))) 0 0 (va_A [((am 0), .inr (8, [.int th, .ref (am 1), .ref (am 2), .ref (am 3), .ref (am 4), .ref (am 5), .long bu, .long he, .ref (am 6), .ref (am 7)])), ((am 1), .inl (ct 1, 334, .inr (.inl S)))] sz) := by
  refine enterW (by decide) (Nat.le_of_ble_eq_true rfl) ?_
  intro p e s m args below meth c ls A hx hb hr hml hown hts hlk hin hsz hAe hP hD hA hE hV hS hl
  have hl : lv_has ls 9 [(0, .ref (am 0)), (1, .int (nI re)), (2, .int (nI im)), (3, .int (nI fr)), (4, .int (nI lo9)), (5, .int (nI hd)), (6, .int fl)] := hl
  refine lv_iload_n hx hb d_M_pipe_0 rfl (lv_at hl 1 rfl) ?_
  refine lv_i2l (v := lN re) hx hb d_M_pipe_1 (nI_l (by omega)) ?_
  refine lv_lconst (v := 1) hx hb d_M_pipe_2 (by decide) ?_
  refine lv_ldc2 (v := 20) hx hb hown (hts _ (List.mem_cons_of_mem _ x_1189)) d_M_pipe_3 ?_
  refine cRS (As := [.long (lN re), .long 1, .long 20]) (rest := []) K_M_in x_978 hx hb hml hown hts hE hV hS (c_M_in l D ct st (lN re) 1 20) (fun k q h => by simp at h) rfl hl.1 rfl (Nat.le_of_ble_eq_true rfl) d_M_pipe_6 (Nat.le_of_ble_eq_true rfl) (Nat.le_of_ble_eq_true rfl) ⟨Nat.le_of_ble_eq_true rfl, Nat.le_of_ble_eq_true rfl⟩ ?_
  refine q_ifeq_b (tgt := 81) hx hb d_M_pipe_9 (by decide) (fun h_9 => absurd (w_inN (lo := 1) (hi := 20) (by omega) (by omega) (by omega)) h_9) (fun h_9 => ?_)
  refine lv_iload_n hx hb d_M_pipe_12 rfl (lv_at hl 2 rfl) ?_
  refine lv_i2l (v := lN im) hx hb d_M_pipe_13 (nI_l (by omega)) ?_
  refine lv_lconst (v := 1) hx hb d_M_pipe_14 (by decide) ?_
  refine lv_ldc2 (v := 50) hx hb hown (hts _ (List.mem_cons_of_mem _ x_1017)) d_M_pipe_15 ?_
  refine cRS (As := [.long (lN im), .long 1, .long 50]) (rest := []) K_M_in x_978 hx hb hml hown hts hE hV hS (c_M_in l D ct st (lN im) 1 50) (fun k q h => by simp at h) rfl hl.1 rfl (Nat.le_of_ble_eq_true rfl) d_M_pipe_18 (Nat.le_of_ble_eq_true rfl) (Nat.le_of_ble_eq_true rfl) ⟨Nat.le_of_ble_eq_true rfl, Nat.le_of_ble_eq_true rfl⟩ ?_
  refine q_ifeq_b (tgt := 81) hx hb d_M_pipe_21 (by decide) (fun h_21 => absurd (w_inN (lo := 1) (hi := 50) (by omega) (by omega) (by omega)) h_21) (fun h_21 => ?_)
  refine lv_iload_n hx hb d_M_pipe_24 rfl (lv_at hl 3 rfl) ?_
  refine lv_i2l (v := lN fr) hx hb d_M_pipe_25 (nI_l (by omega)) ?_
  refine lv_lconst (v := 0) hx hb d_M_pipe_26 (by decide) ?_
  refine lv_ldc2 (v := 20) hx hb hown (hts _ (List.mem_cons_of_mem _ x_1189)) d_M_pipe_27 ?_
  refine cRS (As := [.long (lN fr), .long 0, .long 20]) (rest := []) K_M_in x_978 hx hb hml hown hts hE hV hS (c_M_in l D ct st (lN fr) 0 20) (fun k q h => by simp at h) rfl hl.1 rfl (Nat.le_of_ble_eq_true rfl) d_M_pipe_30 (Nat.le_of_ble_eq_true rfl) (Nat.le_of_ble_eq_true rfl) ⟨Nat.le_of_ble_eq_true rfl, Nat.le_of_ble_eq_true rfl⟩ ?_
  refine q_ifeq_b (tgt := 81) hx hb d_M_pipe_33 (by decide) (fun h_33 => absurd (w_inN (lo := 0) (hi := 20) (by omega) (by omega) (by omega)) h_33) (fun h_33 => ?_)
  refine lv_iload hx hb d_M_pipe_36 (lv_at hl 4 rfl) ?_
  refine lv_i2l (v := lN lo9) hx hb d_M_pipe_38 (nI_l (by omega)) ?_
  refine lv_lconst (v := 1) hx hb d_M_pipe_39 (by decide) ?_
  refine lv_ldc2 (v := 50) hx hb hown (hts _ (List.mem_cons_of_mem _ x_1017)) d_M_pipe_40 ?_
  refine cRS (As := [.long (lN lo9), .long 1, .long 50]) (rest := []) K_M_in x_978 hx hb hml hown hts hE hV hS (c_M_in l D ct st (lN lo9) 1 50) (fun k q h => by simp at h) rfl hl.1 rfl (Nat.le_of_ble_eq_true rfl) d_M_pipe_43 (Nat.le_of_ble_eq_true rfl) (Nat.le_of_ble_eq_true rfl) ⟨Nat.le_of_ble_eq_true rfl, Nat.le_of_ble_eq_true rfl⟩ ?_
  refine q_ifeq_b (tgt := 81) hx hb d_M_pipe_46 (by decide) (fun h_46 => absurd (w_inN (lo := 1) (hi := 50) (by omega) (by omega) (by omega)) h_46) (fun h_46 => ?_)
  refine lv_iload hx hb d_M_pipe_49 (lv_at hl 5 rfl) ?_
  refine lv_i2l (v := lN hd) hx hb d_M_pipe_51 (nI_l (by omega)) ?_
  refine lv_lconst (v := 0) hx hb d_M_pipe_52 (by decide) ?_
  refine lv_ldc2 (v := 2000) hx hb hown (hts _ (List.mem_cons_of_mem _ x_935)) d_M_pipe_53 ?_
  refine cRS (As := [.long (lN hd), .long 0, .long 2000]) (rest := []) K_M_in x_978 hx hb hml hown hts hE hV hS (c_M_in l D ct st (lN hd) 0 2000) (fun k q h => by simp at h) rfl hl.1 rfl (Nat.le_of_ble_eq_true rfl) d_M_pipe_56 (Nat.le_of_ble_eq_true rfl) (Nat.le_of_ble_eq_true rfl) ⟨Nat.le_of_ble_eq_true rfl, Nat.le_of_ble_eq_true rfl⟩ ?_
  refine q_ifeq_b (tgt := 81) hx hb d_M_pipe_59 (by decide) (fun h_59 => absurd (w_inN (lo := 0) (hi := 2000) (by omega) (by omega) (by omega)) h_59) (fun h_59 => ?_)
  refine lv_iload hx hb d_M_pipe_62 (lv_at hl 6 rfl) ?_
  refine lv_i2l hx hb d_M_pipe_64 rfl ?_
  refine lv_ldc2 (v := (-100)) hx hb hown (hts _ (List.mem_cons_of_mem _ x_1190)) d_M_pipe_65 ?_
  refine lv_ldc2 (v := 100) hx hb hown (hts _ (List.mem_cons_of_mem _ x_1011)) d_M_pipe_68 ?_
  refine cRS (As := [.long fl.toInt64, .long (-100), .long 100]) (rest := []) K_M_in x_978 hx hb hml hown hts hE hV hS (c_M_in l D ct st fl.toInt64 (-100) 100) (fun k q h => by simp at h) rfl hl.1 rfl (Nat.le_of_ble_eq_true rfl) d_M_pipe_71 (Nat.le_of_ble_eq_true rfl) (Nat.le_of_ble_eq_true rfl) ⟨Nat.le_of_ble_eq_true rfl, Nat.le_of_ble_eq_true rfl⟩ ?_
  refine q_ifeq_b (tgt := 81) hx hb d_M_pipe_74 (by decide) (fun h_74 => absurd h6 h_74) (fun h_74 => ?_)
  refine lv_iconst (v := 1) hx hb d_M_pipe_77 (by decide) ?_
  refine lv_goto (tgt := 82) hx hb d_M_pipe_78 (by decide) ?_
  refine lv_istore (lv' := [(7, .int 1), (0, .ref (am 0)), (1, .int (nI re)), (2, .int (nI im)), (3, .int (nI fr)), (4, .int (nI lo9)), (5, .int (nI hd)), (6, .int fl)]) hx hb d_M_pipe_82 hl (by decide) rfl (fun ls hl => ?_)
  refine lv_aload_n hx hb d_M_pipe_84 rfl (lv_at hl 1 rfl) ?_
  refine lv_iload hx hb d_M_pipe_85 (lv_at hl 0 rfl) ?_
  refine lv_if_eq (tgt := 94) hx hb d_M_pipe_87 (by decide) (fun h => absurd h (by decide)) (fun _ => ?_)
  refine lv_iconst (v := 0) hx hb d_M_pipe_90 (by decide) ?_
  refine lv_goto (tgt := 95) hx hb d_M_pipe_91 (by decide) ?_
  refine q_put (ty := .int) 0 0 (ws1 := [((am 0), .inr (8, [.int 0, .ref (am 1), .ref (am 2), .ref (am 3), .ref (am 4), .ref (am 5), .long bu, .long he, .ref (am 6), .ref (am 7)])), ((am 1), .inl (ct 1, 334, .inr (.inl S)))]) t_M i_M t_M_ok n_M rfl hx hb hts hown hE hP hD hS rfl (by decide) x_936 rfl (by decide +kernel) (rfl) rfl (Nat.le_of_ble_eq_true rfl) rfl d_M_pipe_95 (fun H locs hP hD hS => ?_)
  refine lv_aload_n hx hb d_M_pipe_98 rfl (lv_at hl 1 rfl) ?_
  refine q_get 0 0 i_M rfl hx hb hts hown hE hP rfl (by decide) x_936 rfl d_M_pipe_99 ?_
  refine lv_if_le (tgt := 106) hx hb d_M_pipe_102 (by decide) (fun _ => ?_) (fun h => absurd h (by decide))
  refine lv_aload_n hx hb d_M_pipe_106 rfl (lv_at hl 1 rfl) ?_
  refine q_get 0 1 i_M rfl hx hb hts hown hE hP rfl (by decide) x_937 rfl d_M_pipe_107 ?_
  refine lv_sipush (v := 243) hx hb d_M_pipe_110 (by decide) ?_
  refine lv_lconst (v := 1) hx hb d_M_pipe_113 (by decide) ?_
  obtain ⟨s_1, es_1⟩ : ∃ g9 : Nat → Int64, g9 = vp_updL S 243 1 := ⟨_, rfl⟩
  refine q_last (k := 243) 1 (ws1 := [((am 0), .inr (8, [.int 0, .ref (am 1), .ref (am 2), .ref (am 3), .ref (am 4), .ref (am 5), .long bu, .long he, .ref (am 6), .ref (am 7)])), ((am 1), .inl (ct 1, 334, .inr (.inl s_1)))]) es_1 hx hb hE hP hD hS rfl rfl (by omega) (by decide) rfl d_M_pipe_114 (fun H locs hP hD hS => ?_)
  refine lv_aload_n hx hb d_M_pipe_115 rfl (lv_at hl 1 rfl) ?_
  refine q_get 0 1 i_M rfl hx hb hts hown hE hP rfl (by decide) x_937 rfl d_M_pipe_116 ?_
  refine lv_sipush (v := 244) hx hb d_M_pipe_119 (by decide) ?_
  refine lv_iload_n hx hb d_M_pipe_122 rfl (lv_at hl 2 rfl) ?_
  refine lv_i2l (v := lN re) hx hb d_M_pipe_123 (nI_l (by omega)) ?_
  obtain ⟨s_2, es_2⟩ : ∃ g9 : Nat → Int64, g9 = vp_updL s_1 244 (lN re) := ⟨_, rfl⟩
  refine q_last (k := 244) 1 (ws1 := [((am 0), .inr (8, [.int 0, .ref (am 1), .ref (am 2), .ref (am 3), .ref (am 4), .ref (am 5), .long bu, .long he, .ref (am 6), .ref (am 7)])), ((am 1), .inl (ct 1, 334, .inr (.inl s_2)))]) es_2 hx hb hE hP hD hS rfl rfl (by omega) (by decide) rfl d_M_pipe_124 (fun H locs hP hD hS => ?_)
  refine lv_aload_n hx hb d_M_pipe_125 rfl (lv_at hl 1 rfl) ?_
  refine q_get 0 1 i_M rfl hx hb hts hown hE hP rfl (by decide) x_937 rfl d_M_pipe_126 ?_
  refine lv_sipush (v := 245) hx hb d_M_pipe_129 (by decide) ?_
  refine lv_iload_n hx hb d_M_pipe_132 rfl (lv_at hl 3 rfl) ?_
  refine lv_i2l (v := lN im) hx hb d_M_pipe_133 (nI_l (by omega)) ?_
  obtain ⟨s_3, es_3⟩ : ∃ g9 : Nat → Int64, g9 = vp_updL s_2 245 (lN im) := ⟨_, rfl⟩
  refine q_last (k := 245) 1 (ws1 := [((am 0), .inr (8, [.int 0, .ref (am 1), .ref (am 2), .ref (am 3), .ref (am 4), .ref (am 5), .long bu, .long he, .ref (am 6), .ref (am 7)])), ((am 1), .inl (ct 1, 334, .inr (.inl s_3)))]) es_3 hx hb hE hP hD hS rfl rfl (by omega) (by decide) rfl d_M_pipe_134 (fun H locs hP hD hS => ?_)
  refine lv_aload_n hx hb d_M_pipe_135 rfl (lv_at hl 1 rfl) ?_
  refine q_get 0 1 i_M rfl hx hb hts hown hE hP rfl (by decide) x_937 rfl d_M_pipe_136 ?_
  refine lv_sipush (v := 246) hx hb d_M_pipe_139 (by decide) ?_
  refine lv_iload_n hx hb d_M_pipe_142 rfl (lv_at hl 4 rfl) ?_
  refine lv_i2l (v := lN fr) hx hb d_M_pipe_143 (nI_l (by omega)) ?_
  obtain ⟨s_4, es_4⟩ : ∃ g9 : Nat → Int64, g9 = vp_updL s_3 246 (lN fr) := ⟨_, rfl⟩
  refine q_last (k := 246) 1 (ws1 := [((am 0), .inr (8, [.int 0, .ref (am 1), .ref (am 2), .ref (am 3), .ref (am 4), .ref (am 5), .long bu, .long he, .ref (am 6), .ref (am 7)])), ((am 1), .inl (ct 1, 334, .inr (.inl s_4)))]) es_4 hx hb hE hP hD hS rfl rfl (by omega) (by decide) rfl d_M_pipe_144 (fun H locs hP hD hS => ?_)
  refine lv_aload_n hx hb d_M_pipe_145 rfl (lv_at hl 1 rfl) ?_
  refine q_get 0 1 i_M rfl hx hb hts hown hE hP rfl (by decide) x_937 rfl d_M_pipe_146 ?_
  refine lv_sipush (v := 247) hx hb d_M_pipe_149 (by decide) ?_
  refine lv_iload hx hb d_M_pipe_152 (lv_at hl 5 rfl) ?_
  refine lv_i2l (v := lN lo9) hx hb d_M_pipe_154 (nI_l (by omega)) ?_
  obtain ⟨s_5, es_5⟩ : ∃ g9 : Nat → Int64, g9 = vp_updL s_4 247 (lN lo9) := ⟨_, rfl⟩
  refine q_last (k := 247) 1 (ws1 := [((am 0), .inr (8, [.int 0, .ref (am 1), .ref (am 2), .ref (am 3), .ref (am 4), .ref (am 5), .long bu, .long he, .ref (am 6), .ref (am 7)])), ((am 1), .inl (ct 1, 334, .inr (.inl s_5)))]) es_5 hx hb hE hP hD hS rfl rfl (by omega) (by decide) rfl d_M_pipe_155 (fun H locs hP hD hS => ?_)
  refine lv_aload_n hx hb d_M_pipe_156 rfl (lv_at hl 1 rfl) ?_
  refine q_get 0 1 i_M rfl hx hb hts hown hE hP rfl (by decide) x_937 rfl d_M_pipe_157 ?_
  refine lv_sipush (v := 248) hx hb d_M_pipe_160 (by decide) ?_
  refine lv_iload hx hb d_M_pipe_163 (lv_at hl 6 rfl) ?_
  refine lv_i2l (v := lN hd) hx hb d_M_pipe_165 (nI_l (by omega)) ?_
  obtain ⟨s_6, es_6⟩ : ∃ g9 : Nat → Int64, g9 = vp_updL s_5 248 (lN hd) := ⟨_, rfl⟩
  refine q_last (k := 248) 1 (ws1 := [((am 0), .inr (8, [.int 0, .ref (am 1), .ref (am 2), .ref (am 3), .ref (am 4), .ref (am 5), .long bu, .long he, .ref (am 6), .ref (am 7)])), ((am 1), .inl (ct 1, 334, .inr (.inl s_6)))]) es_6 hx hb hE hP hD hS rfl rfl (by omega) (by decide) rfl d_M_pipe_166 (fun H locs hP hD hS => ?_)
  refine lv_aload_n hx hb d_M_pipe_167 rfl (lv_at hl 1 rfl) ?_
  refine q_get 0 1 i_M rfl hx hb hts hown hE hP rfl (by decide) x_937 rfl d_M_pipe_168 ?_
  refine lv_sipush (v := 249) hx hb d_M_pipe_171 (by decide) ?_
  refine lv_ldc2 (v := 100) hx hb hown (hts _ (List.mem_cons_of_mem _ x_1011)) d_M_pipe_174 ?_
  obtain ⟨s_7, es_7⟩ : ∃ g9 : Nat → Int64, g9 = vp_updL s_6 249 100 := ⟨_, rfl⟩
  refine q_last (k := 249) 1 (ws1 := [((am 0), .inr (8, [.int 0, .ref (am 1), .ref (am 2), .ref (am 3), .ref (am 4), .ref (am 5), .long bu, .long he, .ref (am 6), .ref (am 7)])), ((am 1), .inl (ct 1, 334, .inr (.inl s_7)))]) es_7 hx hb hE hP hD hS rfl rfl (by omega) (by decide) rfl d_M_pipe_177 (fun H locs hP hD hS => ?_)
  refine lv_iconst (v := 0) hx hb d_M_pipe_178 (by decide) ?_
  refine lv_istore (lv' := [(8, .int 0), (7, .int 1), (0, .ref (am 0)), (1, .int (nI re)), (2, .int (nI im)), (3, .int (nI fr)), (4, .int (nI lo9)), (5, .int (nI hd)), (6, .int fl)]) hx hb d_M_pipe_179 hl (by decide) rfl (fun ls hl => ?_)
  have loop_181 : ∀ (n9 : Nat) (i : Nat) (T : Nat → Int64) (hi : i ≤ 21) (hA : ∀ j, j < i → T (250 + j) = lN hd ∧ T (271 + j) = fl.toInt64 ∧ T (292 + j) = 0 ∧ T (313 + j) = lN hd) (hB : ∀ j, j < 250 → T j = s_7 j) (hn9 : 21 - i < n9) (H : Heap) (locs : List Loc) (ls : Array Slot), va_P D classes [((am 0), .inr (8, [.int 0, .ref (am 1), .ref (am 2), .ref (am 3), .ref (am 4), .ref (am 5), .long bu, .long he, .ref (am 6), .ref (am 7)])), ((am 1), .inl (ct 1, 334, .inr (.inl T)))] H → va_D A [((am 0), .inr (8, [.int 0, .ref (am 1), .ref (am 2), .ref (am 3), .ref (am 4), .ref (am 5), .long bu, .long he, .ref (am 6), .ref (am 7)])), ((am 1), .inl (ct 1, 334, .inr (.inl T)))] → va_S A s.heap H locs → lv_has ls 9 [(0, .ref (am 0)), (1, .int (nI re)), (2, .int (nI im)), (3, .int (nI fr)), (4, .int (nI lo9)), (5, .int (nI hd)), (6, .int fl), (7, .int 1), (8, .int (nI i))] → W p l e (rmW 1 0 0 25) s m args below meth c H locs (0) (0) (MQ below (QcW D [((am 0), .inr (8, [.int th, .ref (am 1), .ref (am 2), .ref (am 3), .ref (am 4), .ref (am 5), .long bu, .long he, .ref (am 6), .ref (am 7)])), ((am 1), .inl (ct 1, 334, .inr (.inl S)))] sz (fun v W1 => ∃ (s1 : Nat → Int64), v = none ∧ W1 = [((am 0), .inr (8, [.int 0, .ref (am 1), .ref (am 2), .ref (am 3), .ref (am 4), .ref (am 5), .long bu, .long he, .ref (am 6), .ref (am 7)])), ((am 1), .inl (ct 1, 334, .inr (.inl s1)))] ∧ (s1 243 = 1 ∧ s1 244 = lN re ∧ s1 245 = lN im ∧ s1 246 = lN fr ∧ s1 247 = lN lo9 ∧ s1 248 = lN hd ∧ s1 249 = lN 100 ∧ (∀ j, j < 21 → s1 (250 + j) = lN hd ∧ s1 (271 + j) = fl.toInt64 ∧ s1 (292 + j) = 0 ∧ s1 (313 + j) = lN hd) ∧ ∀ j, j < 243 → s1 j = S j))) args s 0 0 A) (F0 m 181 ls []) := by
    intro n9
    induction n9 with
    | zero => intro i T hi hA hB hn9 H locs ls hP hD hS hl; exact absurd hn9 (Nat.not_lt_zero _)
    | succ n9 ih_181 =>
      intro i T hi hA hB hn9 H locs ls hP hD hS hl
      refine lv_iload hx hb d_M_pipe_181 (lv_at hl 8 rfl) ?_
      refine lv_bipush (v := 21) hx hb d_M_pipe_183 (by decide) ?_
      refine q_icmp_ge_n (a := i) (b := 21) (tgt := 248) hx hb d_M_pipe_185 (by decide) rfl rfl (by omega) (by omega) (fun h_185 => ?_) (fun h_185 => ?_)
      · exact rW_v hx hb hr hlk hAe hS hP hD (Nat.le_of_ble_eq_true rfl) (Nat.le_of_ble_eq_true rfl) d_M_pipe_248 ⟨T, rfl, rfl, ⟨by rw [hB 243 (by omega)]; simp (disch := omega) only [es_7, es_6, es_5, es_4, es_3, es_2, es_1, pk_uLn, pk_uLs, pk_us, pk_un], by rw [hB 244 (by omega)]; simp (disch := omega) only [es_7, es_6, es_5, es_4, es_3, es_2, es_1, pk_uLn, pk_uLs, pk_us, pk_un], by rw [hB 245 (by omega)]; simp (disch := omega) only [es_7, es_6, es_5, es_4, es_3, es_2, es_1, pk_uLn, pk_uLs, pk_us, pk_un], by rw [hB 246 (by omega)]; simp (disch := omega) only [es_7, es_6, es_5, es_4, es_3, es_2, es_1, pk_uLn, pk_uLs, pk_us, pk_un], by rw [hB 247 (by omega)]; simp (disch := omega) only [es_7, es_6, es_5, es_4, es_3, es_2, es_1, pk_uLn, pk_uLs, pk_us, pk_un], by rw [hB 248 (by omega)]; simp (disch := omega) only [es_7, es_6, es_5, es_4, es_3, es_2, es_1, pk_uLn, pk_uLs, pk_us, pk_un], by rw [hB 249 (by omega)]; simp (disch := omega) only [es_7, es_6, es_5, es_4, es_3, es_2, es_1, pk_uLn, pk_uLs, pk_us, pk_un]; rfl, fun j hj => hA j (by omega), fun j hj => by rw [hB j (by omega)]; simp (disch := omega) only [es_7, es_6, es_5, es_4, es_3, es_2, es_1, pk_uLn, pk_uLs, pk_us, pk_un]⟩⟩
      · refine lv_aload_n hx hb d_M_pipe_188 rfl (lv_at hl 0 rfl) ?_
        refine q_get 0 1 i_M rfl hx hb hts hown hE hP rfl (by decide) x_937 rfl d_M_pipe_189 ?_
        refine lv_sipush (v := 250) hx hb d_M_pipe_192 (by decide) ?_
        refine lv_iload hx hb d_M_pipe_195 (lv_at hl 8 rfl) ?_
        refine q_iadd (v := nI (250 + i)) hx hb d_M_pipe_197 (nI_add 250 i) ?_
        refine lv_iload hx hb d_M_pipe_198 (lv_at hl 5 rfl) ?_
        refine lv_i2l (v := lN hd) hx hb d_M_pipe_200 (nI_l (by omega)) ?_
        obtain ⟨s_8, es_8⟩ : ∃ g9 : Nat → Int64, g9 = vp_updL T (250 + i) (lN hd) := ⟨_, rfl⟩
        refine q_last (k := 250 + i) 1 (ws1 := [((am 0), .inr (8, [.int 0, .ref (am 1), .ref (am 2), .ref (am 3), .ref (am 4), .ref (am 5), .long bu, .long he, .ref (am 6), .ref (am 7)])), ((am 1), .inl (ct 1, 334, .inr (.inl s_8)))]) es_8 hx hb hE hP hD hS rfl rfl (by omega) (by decide) rfl d_M_pipe_201 (fun H locs hP hD hS => ?_)
        refine lv_aload_n hx hb d_M_pipe_202 rfl (lv_at hl 0 rfl) ?_
        refine q_get 0 1 i_M rfl hx hb hts hown hE hP rfl (by decide) x_937 rfl d_M_pipe_203 ?_
        refine lv_sipush (v := 271) hx hb d_M_pipe_206 (by decide) ?_
        refine lv_iload hx hb d_M_pipe_209 (lv_at hl 8 rfl) ?_
        refine q_iadd (v := nI (271 + i)) hx hb d_M_pipe_211 (nI_add 271 i) ?_
        refine lv_iload hx hb d_M_pipe_212 (lv_at hl 6 rfl) ?_
        refine lv_i2l hx hb d_M_pipe_214 rfl ?_
        obtain ⟨s_9, es_9⟩ : ∃ g9 : Nat → Int64, g9 = vp_updL s_8 (271 + i) fl.toInt64 := ⟨_, rfl⟩
        refine q_last (k := 271 + i) 1 (ws1 := [((am 0), .inr (8, [.int 0, .ref (am 1), .ref (am 2), .ref (am 3), .ref (am 4), .ref (am 5), .long bu, .long he, .ref (am 6), .ref (am 7)])), ((am 1), .inl (ct 1, 334, .inr (.inl s_9)))]) es_9 hx hb hE hP hD hS rfl rfl (by omega) (by decide) rfl d_M_pipe_215 (fun H locs hP hD hS => ?_)
        refine lv_aload_n hx hb d_M_pipe_216 rfl (lv_at hl 0 rfl) ?_
        refine q_get 0 1 i_M rfl hx hb hts hown hE hP rfl (by decide) x_937 rfl d_M_pipe_217 ?_
        refine lv_sipush (v := 292) hx hb d_M_pipe_220 (by decide) ?_
        refine lv_iload hx hb d_M_pipe_223 (lv_at hl 8 rfl) ?_
        refine q_iadd (v := nI (292 + i)) hx hb d_M_pipe_225 (nI_add 292 i) ?_
        refine lv_lconst (v := 0) hx hb d_M_pipe_226 (by decide) ?_
        obtain ⟨s_10, es_10⟩ : ∃ g9 : Nat → Int64, g9 = vp_updL s_9 (292 + i) 0 := ⟨_, rfl⟩
        refine q_last (k := 292 + i) 1 (ws1 := [((am 0), .inr (8, [.int 0, .ref (am 1), .ref (am 2), .ref (am 3), .ref (am 4), .ref (am 5), .long bu, .long he, .ref (am 6), .ref (am 7)])), ((am 1), .inl (ct 1, 334, .inr (.inl s_10)))]) es_10 hx hb hE hP hD hS rfl rfl (by omega) (by decide) rfl d_M_pipe_227 (fun H locs hP hD hS => ?_)
        refine lv_aload_n hx hb d_M_pipe_228 rfl (lv_at hl 0 rfl) ?_
        refine q_get 0 1 i_M rfl hx hb hts hown hE hP rfl (by decide) x_937 rfl d_M_pipe_229 ?_
        refine lv_sipush (v := 313) hx hb d_M_pipe_232 (by decide) ?_
        refine lv_iload hx hb d_M_pipe_235 (lv_at hl 8 rfl) ?_
        refine q_iadd (v := nI (313 + i)) hx hb d_M_pipe_237 (nI_add 313 i) ?_
        refine lv_iload hx hb d_M_pipe_238 (lv_at hl 5 rfl) ?_
        refine lv_i2l (v := lN hd) hx hb d_M_pipe_240 (nI_l (by omega)) ?_
        obtain ⟨s_11, es_11⟩ : ∃ g9 : Nat → Int64, g9 = vp_updL s_10 (313 + i) (lN hd) := ⟨_, rfl⟩
        refine q_last (k := 313 + i) 1 (ws1 := [((am 0), .inr (8, [.int 0, .ref (am 1), .ref (am 2), .ref (am 3), .ref (am 4), .ref (am 5), .long bu, .long he, .ref (am 6), .ref (am 7)])), ((am 1), .inl (ct 1, 334, .inr (.inl s_11)))]) es_11 hx hb hE hP hD hS rfl rfl (by omega) (by decide) rfl d_M_pipe_241 (fun H locs hP hD hS => ?_)
        refine lv_iinc (v := (nI (i + 1))) (lv' := [(8, .int (nI (i + 1))), (0, .ref (am 0)), (1, .int (nI re)), (2, .int (nI im)), (3, .int (nI fr)), (4, .int (nI lo9)), (5, .int (nI hd)), (6, .int fl), (7, .int 1)]) hx hb d_M_pipe_242 hl (k := 8) rfl (nI_1 _) (by decide) rfl (fun ls hl => ?_)
        refine lv_goto (tgt := 181) hx hb d_M_pipe_245 (by decide) ?_
        exact ih_181 (i + 1) s_11 (by omega) (fun j hj => by
                                        rcases Nat.lt_succ_iff_lt_or_eq.mp hj with q | rfl
                                        · have := hA j q
                                          simp (disch := omega) only [es_11, es_10, es_9, es_8, es_7, es_6, es_5, es_4, es_3, es_2, es_1, pk_uLn, pk_uLs, pk_us, pk_un]
                                          exact this
                                        · simp (disch := omega) only [es_11, es_10, es_9, es_8, es_7, es_6, es_5, es_4, es_3, es_2, es_1, pk_uLn, pk_uLs, pk_us, pk_un]; exact ⟨trivial, trivial, trivial, trivial⟩) (fun j hj => by simp (disch := omega) only [es_11, es_10, es_9, es_8, pk_uLn]; exact hB j hj) (by omega) _ _ _ hP hD hS (lv_sub hl [1, 2, 3, 4, 5, 6, 7, 8, 0] rfl)
  exact loop_181 _ 0 s_7 (by omega) (fun j hj => absurd hj (Nat.not_lt_zero _)) (fun _ _ => rfl) (Nat.lt_succ_self _) _ _ _ hP hD hS (lv_sub hl [2, 3, 4, 5, 6, 7, 8, 1, 0] rfl)
set_option maxHeartbeats 4000000 in
set_option maxRecDepth 100000 in
theorem c_M_node_0 (l : Launch) (D : va_G) (ct : Nat → ClassId) (st : Nat → Nat) (am : Nat → Nat) (th : Int32) (bu : Int64) (he : Int64) (S : Nat → Int64) (la : Nat) (k : Nat) (h1 : S 243 = 1) (h2 : S 244 = lN la) (h3 : k ≤ la ∧ la ≤ 20) (sz : Nat) : Met l y_M_node (wsy y_M_node b_M_node 3 (some .int)) (rmW 1 0 0 25) (PcW D ct st [.ref (am 0), .int (nI k), .int 0] [((am 0), .inr (8, [.int th, .ref (am 1), .ref (am 2), .ref (am 3), .ref (am 4), .ref (am 5), .long bu, .long he, .ref (am 6), .ref (am 7)])), ((am 1), .inl (ct 1, 334, .inr (.inl S)))] sz) (QcW D [((am 0), .inr (8, [.int th, .ref (am 1), .ref (am 2), .ref (am 3), .ref (am 4), .ref (am 5), .long bu, .long he, .ref (am 6), .ref (am 7)])), ((am 1), .inl (ct 1, 334, .inr (.inl S)))] sz (fun v W1 => v = some (.int (w_gr (S (250 + k)))) ∧ W1 = [((am 0), .inr (8, [.int 0, .ref (am 1), .ref (am 2), .ref (am 3), .ref (am 4), .ref (am 5), .long bu, .long he, .ref (am 6), .ref (am 7)])), ((am 1), .inl (ct 1, 334, .inr (.inl S)))] ∧ (True))) 0 0 (va_A [((am 0), .inr (8, [.int th, .ref (am 1), .ref (am 2), .ref (am 3), .ref (am 4), .ref (am 5), .long bu, .long he, .ref (am 6), .ref (am 7)])), ((am 1), .inl (ct 1, 334, .inr (.inl S)))] sz) := by
  refine enterW (by decide) (Nat.le_of_ble_eq_true rfl) ?_
  intro p e s m args below meth c ls A hx hb hr hml hown hts hlk hin hsz hAe hP hD hA hE hV hS hl
  have hl : lv_has ls 3 [(0, .ref (am 0)), (1, .int (nI k)), (2, .int 0)] := hl
  refine lv_aload_n hx hb d_M_node_0 rfl (lv_at hl 0 rfl) ?_
  refine lv_aload_n hx hb d_M_node_1 rfl (lv_at hl 0 rfl) ?_
  refine q_get 0 1 i_M rfl hx hb hts hown hE hP rfl (by decide) x_937 rfl d_M_node_2 ?_
  refine lv_sipush (v := 243) hx hb d_M_node_5 (by decide) ?_
  refine q_lald (k := 243) 1 hx hb hE hP rfl rfl (by omega) (by decide) d_M_node_8 ?_
  refine q_topl (v := 1) (h1) ?_
  refine lv_lconst (v := 0) hx hb d_M_node_9 (by decide) ?_
  refine W.lcmp hx hb d_M_node_10 ?_
  refine q_cmp_eq (tgt := 31) hx hb d_M_node_11 (by decide) (fun h_11 => absurd h_11 (by decide)) (fun h_11 => ?_)
  refine lv_iload_n hx hb d_M_node_14 rfl (lv_at hl 1 rfl) ?_
  refine lv_i2l (v := lN k) hx hb d_M_node_15 (nI_l (by omega)) ?_
  refine lv_lconst (v := 0) hx hb d_M_node_16 (by decide) ?_
  refine lv_aload_n hx hb d_M_node_17 rfl (lv_at hl 0 rfl) ?_
  refine q_get 0 1 i_M rfl hx hb hts hown hE hP rfl (by decide) x_937 rfl d_M_node_18 ?_
  refine lv_sipush (v := 244) hx hb d_M_node_21 (by decide) ?_
  refine q_lald (k := 244) 1 hx hb hE hP rfl rfl (by omega) (by decide) d_M_node_24 ?_
  refine q_topl (v := lN la) (h2) ?_
  refine cRS (As := [.long (lN k), .long 0, .long (lN la)]) (rest := [.ref (am 0)]) K_M_in x_978 hx hb hml hown hts hE hV hS (c_M_in l D ct st (lN k) 0 (lN la)) (fun k q h => by simp at h) rfl hl.1 rfl (Nat.le_of_ble_eq_true rfl) d_M_node_25 (Nat.le_of_ble_eq_true rfl) (Nat.le_of_ble_eq_true rfl) ⟨Nat.le_of_ble_eq_true rfl, Nat.le_of_ble_eq_true rfl⟩ ?_
  refine q_ifne_b (tgt := 35) hx hb d_M_node_28 (by decide) (fun h_28 => ?_) (fun h_28 => absurd (w_inN (lo := 0) (by omega) (by omega) (by omega)) h_28)
  refine lv_iload_n hx hb d_M_node_35 rfl (lv_at hl 2 rfl) ?_
  refine lv_i2l (v := 0) hx hb d_M_node_36 (by decide) ?_
  refine lv_lconst (v := 0) hx hb d_M_node_37 (by decide) ?_
  refine lv_ldc2 (v := 3) hx hb hown (hts _ (List.mem_cons_of_mem _ x_1045)) d_M_node_38 ?_
  refine cRS (As := [.long 0, .long 0, .long 3]) (rest := [.ref (am 0)]) K_M_in x_978 hx hb hml hown hts hE hV hS (c_M_in l D ct st 0 0 3) (fun k q h => by simp at h) rfl hl.1 rfl (Nat.le_of_ble_eq_true rfl) d_M_node_41 (Nat.le_of_ble_eq_true rfl) (Nat.le_of_ble_eq_true rfl) ⟨Nat.le_of_ble_eq_true rfl, Nat.le_of_ble_eq_true rfl⟩ ?_
  refine q_ifeq_b (tgt := 51) hx hb d_M_node_44 (by decide) (fun h_44 => absurd (w_inN (a := 0) (lo := 0) (hi := 3) (by omega) (by omega) (by omega)) h_44) (fun h_44 => ?_)
  refine lv_iconst (v := 0) hx hb d_M_node_47 (by decide) ?_
  refine lv_goto (tgt := 52) hx hb d_M_node_48 (by decide) ?_
  refine q_put (ty := .int) 0 0 (ws1 := [((am 0), .inr (8, [.int 0, .ref (am 1), .ref (am 2), .ref (am 3), .ref (am 4), .ref (am 5), .long bu, .long he, .ref (am 6), .ref (am 7)])), ((am 1), .inl (ct 1, 334, .inr (.inl S)))]) t_M i_M t_M_ok n_M rfl hx hb hts hown hE hP hD hS rfl (by decide) x_936 rfl (by decide +kernel) (rfl) rfl (Nat.le_of_ble_eq_true rfl) rfl d_M_node_52 (fun H locs hP hD hS => ?_)
  refine lv_aload_n hx hb d_M_node_55 rfl (lv_at hl 0 rfl) ?_
  refine q_get 0 0 i_M rfl hx hb hts hown hE hP rfl (by decide) x_936 rfl d_M_node_56 ?_
  refine lv_if_le (tgt := 66) hx hb d_M_node_59 (by decide) (fun _ => ?_) (fun h => absurd h (by decide))
  refine lv_aload_n hx hb d_M_node_66 rfl (lv_at hl 0 rfl) ?_
  refine q_get 0 1 i_M rfl hx hb hts hown hE hP rfl (by decide) x_937 rfl d_M_node_67 ?_
  refine lv_sipush (v := 250) hx hb d_M_node_70 (by decide) ?_
  refine lv_bipush (v := 21) hx hb d_M_node_73 (by decide) ?_
  refine lv_iload_n hx hb d_M_node_75 rfl (lv_at hl 2 rfl) ?_
  refine q_imul (v := 0) hx hb d_M_node_76 (by decide) ?_
  refine q_iadd (v := 250) hx hb d_M_node_77 (by decide) ?_
  refine lv_iload_n hx hb d_M_node_78 rfl (lv_at hl 1 rfl) ?_
  refine q_iadd (v := nI (250 + k)) hx hb d_M_node_79 (nI_add 250 k) ?_
  refine q_lald (k := 250 + k) 1 hx hb hE hP rfl rfl (by omega) (by decide) d_M_node_80 ?_
  refine cRS (As := [.long (S (250 + k))]) (rest := []) K_M_greatest x_1089 hx hb hml hown hts hE hV hS (c_M_greatest l D ct st (S (250 + k))) (fun k q h => by simp at h) rfl hl.1 rfl (Nat.le_of_ble_eq_true rfl) d_M_node_81 (Nat.le_of_ble_eq_true rfl) (Nat.le_of_ble_eq_true rfl) ⟨Nat.le_of_ble_eq_true rfl, Nat.le_of_ble_eq_true rfl⟩ ?_
  exact rW_i hx hb hr hlk hAe hS hP hD (Nat.le_of_ble_eq_true rfl) (Nat.le_of_ble_eq_true rfl) d_M_node_84 ⟨rfl, rfl, trivial⟩
set_option maxHeartbeats 4000000 in
set_option maxRecDepth 100000 in
theorem c_M_node_1 (l : Launch) (D : va_G) (ct : Nat → ClassId) (st : Nat → Nat) (am : Nat → Nat) (th : Int32) (bu : Int64) (he : Int64) (S : Nat → Int64) (la : Nat) (k : Nat) (h1 : S 243 = 1) (h2 : S 244 = lN la) (h3 : k ≤ la ∧ la ≤ 20) (sz : Nat) : Met l y_M_node (wsy y_M_node b_M_node 3 (some .int)) (rmW 1 0 0 25) (PcW D ct st [.ref (am 0), .int (nI k), .int 1] [((am 0), .inr (8, [.int th, .ref (am 1), .ref (am 2), .ref (am 3), .ref (am 4), .ref (am 5), .long bu, .long he, .ref (am 6), .ref (am 7)])), ((am 1), .inl (ct 1, 334, .inr (.inl S)))] sz) (QcW D [((am 0), .inr (8, [.int th, .ref (am 1), .ref (am 2), .ref (am 3), .ref (am 4), .ref (am 5), .long bu, .long he, .ref (am 6), .ref (am 7)])), ((am 1), .inl (ct 1, 334, .inr (.inl S)))] sz (fun v W1 => v = some (.int (w_gr (S (271 + k)))) ∧ W1 = [((am 0), .inr (8, [.int 0, .ref (am 1), .ref (am 2), .ref (am 3), .ref (am 4), .ref (am 5), .long bu, .long he, .ref (am 6), .ref (am 7)])), ((am 1), .inl (ct 1, 334, .inr (.inl S)))] ∧ (True))) 0 0 (va_A [((am 0), .inr (8, [.int th, .ref (am 1), .ref (am 2), .ref (am 3), .ref (am 4), .ref (am 5), .long bu, .long he, .ref (am 6), .ref (am 7)])), ((am 1), .inl (ct 1, 334, .inr (.inl S)))] sz) := by
  refine enterW (by decide) (Nat.le_of_ble_eq_true rfl) ?_
  intro p e s m args below meth c ls A hx hb hr hml hown hts hlk hin hsz hAe hP hD hA hE hV hS hl
  have hl : lv_has ls 3 [(0, .ref (am 0)), (1, .int (nI k)), (2, .int 1)] := hl
  refine lv_aload_n hx hb d_M_node_0 rfl (lv_at hl 0 rfl) ?_
  refine lv_aload_n hx hb d_M_node_1 rfl (lv_at hl 0 rfl) ?_
  refine q_get 0 1 i_M rfl hx hb hts hown hE hP rfl (by decide) x_937 rfl d_M_node_2 ?_
  refine lv_sipush (v := 243) hx hb d_M_node_5 (by decide) ?_
  refine q_lald (k := 243) 1 hx hb hE hP rfl rfl (by omega) (by decide) d_M_node_8 ?_
  refine q_topl (v := 1) (h1) ?_
  refine lv_lconst (v := 0) hx hb d_M_node_9 (by decide) ?_
  refine W.lcmp hx hb d_M_node_10 ?_
  refine q_cmp_eq (tgt := 31) hx hb d_M_node_11 (by decide) (fun h_11 => absurd h_11 (by decide)) (fun h_11 => ?_)
  refine lv_iload_n hx hb d_M_node_14 rfl (lv_at hl 1 rfl) ?_
  refine lv_i2l (v := lN k) hx hb d_M_node_15 (nI_l (by omega)) ?_
  refine lv_lconst (v := 0) hx hb d_M_node_16 (by decide) ?_
  refine lv_aload_n hx hb d_M_node_17 rfl (lv_at hl 0 rfl) ?_
  refine q_get 0 1 i_M rfl hx hb hts hown hE hP rfl (by decide) x_937 rfl d_M_node_18 ?_
  refine lv_sipush (v := 244) hx hb d_M_node_21 (by decide) ?_
  refine q_lald (k := 244) 1 hx hb hE hP rfl rfl (by omega) (by decide) d_M_node_24 ?_
  refine q_topl (v := lN la) (h2) ?_
  refine cRS (As := [.long (lN k), .long 0, .long (lN la)]) (rest := [.ref (am 0)]) K_M_in x_978 hx hb hml hown hts hE hV hS (c_M_in l D ct st (lN k) 0 (lN la)) (fun k q h => by simp at h) rfl hl.1 rfl (Nat.le_of_ble_eq_true rfl) d_M_node_25 (Nat.le_of_ble_eq_true rfl) (Nat.le_of_ble_eq_true rfl) ⟨Nat.le_of_ble_eq_true rfl, Nat.le_of_ble_eq_true rfl⟩ ?_
  refine q_ifne_b (tgt := 35) hx hb d_M_node_28 (by decide) (fun h_28 => ?_) (fun h_28 => absurd (w_inN (lo := 0) (by omega) (by omega) (by omega)) h_28)
  refine lv_iload_n hx hb d_M_node_35 rfl (lv_at hl 2 rfl) ?_
  refine lv_i2l (v := 1) hx hb d_M_node_36 (by decide) ?_
  refine lv_lconst (v := 0) hx hb d_M_node_37 (by decide) ?_
  refine lv_ldc2 (v := 3) hx hb hown (hts _ (List.mem_cons_of_mem _ x_1045)) d_M_node_38 ?_
  refine cRS (As := [.long 1, .long 0, .long 3]) (rest := [.ref (am 0)]) K_M_in x_978 hx hb hml hown hts hE hV hS (c_M_in l D ct st 1 0 3) (fun k q h => by simp at h) rfl hl.1 rfl (Nat.le_of_ble_eq_true rfl) d_M_node_41 (Nat.le_of_ble_eq_true rfl) (Nat.le_of_ble_eq_true rfl) ⟨Nat.le_of_ble_eq_true rfl, Nat.le_of_ble_eq_true rfl⟩ ?_
  refine q_ifeq_b (tgt := 51) hx hb d_M_node_44 (by decide) (fun h_44 => absurd (w_inN (a := 1) (lo := 0) (hi := 3) (by omega) (by omega) (by omega)) h_44) (fun h_44 => ?_)
  refine lv_iconst (v := 0) hx hb d_M_node_47 (by decide) ?_
  refine lv_goto (tgt := 52) hx hb d_M_node_48 (by decide) ?_
  refine q_put (ty := .int) 0 0 (ws1 := [((am 0), .inr (8, [.int 0, .ref (am 1), .ref (am 2), .ref (am 3), .ref (am 4), .ref (am 5), .long bu, .long he, .ref (am 6), .ref (am 7)])), ((am 1), .inl (ct 1, 334, .inr (.inl S)))]) t_M i_M t_M_ok n_M rfl hx hb hts hown hE hP hD hS rfl (by decide) x_936 rfl (by decide +kernel) (rfl) rfl (Nat.le_of_ble_eq_true rfl) rfl d_M_node_52 (fun H locs hP hD hS => ?_)
  refine lv_aload_n hx hb d_M_node_55 rfl (lv_at hl 0 rfl) ?_
  refine q_get 0 0 i_M rfl hx hb hts hown hE hP rfl (by decide) x_936 rfl d_M_node_56 ?_
  refine lv_if_le (tgt := 66) hx hb d_M_node_59 (by decide) (fun _ => ?_) (fun h => absurd h (by decide))
  refine lv_aload_n hx hb d_M_node_66 rfl (lv_at hl 0 rfl) ?_
  refine q_get 0 1 i_M rfl hx hb hts hown hE hP rfl (by decide) x_937 rfl d_M_node_67 ?_
  refine lv_sipush (v := 250) hx hb d_M_node_70 (by decide) ?_
  refine lv_bipush (v := 21) hx hb d_M_node_73 (by decide) ?_
  refine lv_iload_n hx hb d_M_node_75 rfl (lv_at hl 2 rfl) ?_
  refine q_imul (v := 21) hx hb d_M_node_76 (by decide) ?_
  refine q_iadd (v := 271) hx hb d_M_node_77 (by decide) ?_
  refine lv_iload_n hx hb d_M_node_78 rfl (lv_at hl 1 rfl) ?_
  refine q_iadd (v := nI (271 + k)) hx hb d_M_node_79 (nI_add 271 k) ?_
  refine q_lald (k := 271 + k) 1 hx hb hE hP rfl rfl (by omega) (by decide) d_M_node_80 ?_
  refine cRS (As := [.long (S (271 + k))]) (rest := []) K_M_greatest x_1089 hx hb hml hown hts hE hV hS (c_M_greatest l D ct st (S (271 + k))) (fun k q h => by simp at h) rfl hl.1 rfl (Nat.le_of_ble_eq_true rfl) d_M_node_81 (Nat.le_of_ble_eq_true rfl) (Nat.le_of_ble_eq_true rfl) ⟨Nat.le_of_ble_eq_true rfl, Nat.le_of_ble_eq_true rfl⟩ ?_
  exact rW_i hx hb hr hlk hAe hS hP hD (Nat.le_of_ble_eq_true rfl) (Nat.le_of_ble_eq_true rfl) d_M_node_84 ⟨rfl, rfl, trivial⟩
set_option maxHeartbeats 4000000 in
set_option maxRecDepth 100000 in
theorem c_M_node_2 (l : Launch) (D : va_G) (ct : Nat → ClassId) (st : Nat → Nat) (am : Nat → Nat) (th : Int32) (bu : Int64) (he : Int64) (S : Nat → Int64) (la : Nat) (k : Nat) (h1 : S 243 = 1) (h2 : S 244 = lN la) (h3 : k ≤ la ∧ la ≤ 20) (sz : Nat) : Met l y_M_node (wsy y_M_node b_M_node 3 (some .int)) (rmW 1 0 0 25) (PcW D ct st [.ref (am 0), .int (nI k), .int 2] [((am 0), .inr (8, [.int th, .ref (am 1), .ref (am 2), .ref (am 3), .ref (am 4), .ref (am 5), .long bu, .long he, .ref (am 6), .ref (am 7)])), ((am 1), .inl (ct 1, 334, .inr (.inl S)))] sz) (QcW D [((am 0), .inr (8, [.int th, .ref (am 1), .ref (am 2), .ref (am 3), .ref (am 4), .ref (am 5), .long bu, .long he, .ref (am 6), .ref (am 7)])), ((am 1), .inl (ct 1, 334, .inr (.inl S)))] sz (fun v W1 => v = some (.int (w_gr (S (292 + k)))) ∧ W1 = [((am 0), .inr (8, [.int 0, .ref (am 1), .ref (am 2), .ref (am 3), .ref (am 4), .ref (am 5), .long bu, .long he, .ref (am 6), .ref (am 7)])), ((am 1), .inl (ct 1, 334, .inr (.inl S)))] ∧ (True))) 0 0 (va_A [((am 0), .inr (8, [.int th, .ref (am 1), .ref (am 2), .ref (am 3), .ref (am 4), .ref (am 5), .long bu, .long he, .ref (am 6), .ref (am 7)])), ((am 1), .inl (ct 1, 334, .inr (.inl S)))] sz) := by
  refine enterW (by decide) (Nat.le_of_ble_eq_true rfl) ?_
  intro p e s m args below meth c ls A hx hb hr hml hown hts hlk hin hsz hAe hP hD hA hE hV hS hl
  have hl : lv_has ls 3 [(0, .ref (am 0)), (1, .int (nI k)), (2, .int 2)] := hl
  refine lv_aload_n hx hb d_M_node_0 rfl (lv_at hl 0 rfl) ?_
  refine lv_aload_n hx hb d_M_node_1 rfl (lv_at hl 0 rfl) ?_
  refine q_get 0 1 i_M rfl hx hb hts hown hE hP rfl (by decide) x_937 rfl d_M_node_2 ?_
  refine lv_sipush (v := 243) hx hb d_M_node_5 (by decide) ?_
  refine q_lald (k := 243) 1 hx hb hE hP rfl rfl (by omega) (by decide) d_M_node_8 ?_
  refine q_topl (v := 1) (h1) ?_
  refine lv_lconst (v := 0) hx hb d_M_node_9 (by decide) ?_
  refine W.lcmp hx hb d_M_node_10 ?_
  refine q_cmp_eq (tgt := 31) hx hb d_M_node_11 (by decide) (fun h_11 => absurd h_11 (by decide)) (fun h_11 => ?_)
  refine lv_iload_n hx hb d_M_node_14 rfl (lv_at hl 1 rfl) ?_
  refine lv_i2l (v := lN k) hx hb d_M_node_15 (nI_l (by omega)) ?_
  refine lv_lconst (v := 0) hx hb d_M_node_16 (by decide) ?_
  refine lv_aload_n hx hb d_M_node_17 rfl (lv_at hl 0 rfl) ?_
  refine q_get 0 1 i_M rfl hx hb hts hown hE hP rfl (by decide) x_937 rfl d_M_node_18 ?_
  refine lv_sipush (v := 244) hx hb d_M_node_21 (by decide) ?_
  refine q_lald (k := 244) 1 hx hb hE hP rfl rfl (by omega) (by decide) d_M_node_24 ?_
  refine q_topl (v := lN la) (h2) ?_
  refine cRS (As := [.long (lN k), .long 0, .long (lN la)]) (rest := [.ref (am 0)]) K_M_in x_978 hx hb hml hown hts hE hV hS (c_M_in l D ct st (lN k) 0 (lN la)) (fun k q h => by simp at h) rfl hl.1 rfl (Nat.le_of_ble_eq_true rfl) d_M_node_25 (Nat.le_of_ble_eq_true rfl) (Nat.le_of_ble_eq_true rfl) ⟨Nat.le_of_ble_eq_true rfl, Nat.le_of_ble_eq_true rfl⟩ ?_
  refine q_ifne_b (tgt := 35) hx hb d_M_node_28 (by decide) (fun h_28 => ?_) (fun h_28 => absurd (w_inN (lo := 0) (by omega) (by omega) (by omega)) h_28)
  refine lv_iload_n hx hb d_M_node_35 rfl (lv_at hl 2 rfl) ?_
  refine lv_i2l (v := 2) hx hb d_M_node_36 (by decide) ?_
  refine lv_lconst (v := 0) hx hb d_M_node_37 (by decide) ?_
  refine lv_ldc2 (v := 3) hx hb hown (hts _ (List.mem_cons_of_mem _ x_1045)) d_M_node_38 ?_
  refine cRS (As := [.long 2, .long 0, .long 3]) (rest := [.ref (am 0)]) K_M_in x_978 hx hb hml hown hts hE hV hS (c_M_in l D ct st 2 0 3) (fun k q h => by simp at h) rfl hl.1 rfl (Nat.le_of_ble_eq_true rfl) d_M_node_41 (Nat.le_of_ble_eq_true rfl) (Nat.le_of_ble_eq_true rfl) ⟨Nat.le_of_ble_eq_true rfl, Nat.le_of_ble_eq_true rfl⟩ ?_
  refine q_ifeq_b (tgt := 51) hx hb d_M_node_44 (by decide) (fun h_44 => absurd (w_inN (a := 2) (lo := 0) (hi := 3) (by omega) (by omega) (by omega)) h_44) (fun h_44 => ?_)
  refine lv_iconst (v := 0) hx hb d_M_node_47 (by decide) ?_
  refine lv_goto (tgt := 52) hx hb d_M_node_48 (by decide) ?_
  refine q_put (ty := .int) 0 0 (ws1 := [((am 0), .inr (8, [.int 0, .ref (am 1), .ref (am 2), .ref (am 3), .ref (am 4), .ref (am 5), .long bu, .long he, .ref (am 6), .ref (am 7)])), ((am 1), .inl (ct 1, 334, .inr (.inl S)))]) t_M i_M t_M_ok n_M rfl hx hb hts hown hE hP hD hS rfl (by decide) x_936 rfl (by decide +kernel) (rfl) rfl (Nat.le_of_ble_eq_true rfl) rfl d_M_node_52 (fun H locs hP hD hS => ?_)
  refine lv_aload_n hx hb d_M_node_55 rfl (lv_at hl 0 rfl) ?_
  refine q_get 0 0 i_M rfl hx hb hts hown hE hP rfl (by decide) x_936 rfl d_M_node_56 ?_
  refine lv_if_le (tgt := 66) hx hb d_M_node_59 (by decide) (fun _ => ?_) (fun h => absurd h (by decide))
  refine lv_aload_n hx hb d_M_node_66 rfl (lv_at hl 0 rfl) ?_
  refine q_get 0 1 i_M rfl hx hb hts hown hE hP rfl (by decide) x_937 rfl d_M_node_67 ?_
  refine lv_sipush (v := 250) hx hb d_M_node_70 (by decide) ?_
  refine lv_bipush (v := 21) hx hb d_M_node_73 (by decide) ?_
  refine lv_iload_n hx hb d_M_node_75 rfl (lv_at hl 2 rfl) ?_
  refine q_imul (v := 42) hx hb d_M_node_76 (by decide) ?_
  refine q_iadd (v := 292) hx hb d_M_node_77 (by decide) ?_
  refine lv_iload_n hx hb d_M_node_78 rfl (lv_at hl 1 rfl) ?_
  refine q_iadd (v := nI (292 + k)) hx hb d_M_node_79 (nI_add 292 k) ?_
  refine q_lald (k := 292 + k) 1 hx hb hE hP rfl rfl (by omega) (by decide) d_M_node_80 ?_
  refine cRS (As := [.long (S (292 + k))]) (rest := []) K_M_greatest x_1089 hx hb hml hown hts hE hV hS (c_M_greatest l D ct st (S (292 + k))) (fun k q h => by simp at h) rfl hl.1 rfl (Nat.le_of_ble_eq_true rfl) d_M_node_81 (Nat.le_of_ble_eq_true rfl) (Nat.le_of_ble_eq_true rfl) ⟨Nat.le_of_ble_eq_true rfl, Nat.le_of_ble_eq_true rfl⟩ ?_
  exact rW_i hx hb hr hlk hAe hS hP hD (Nat.le_of_ble_eq_true rfl) (Nat.le_of_ble_eq_true rfl) d_M_node_84 ⟨rfl, rfl, trivial⟩
set_option maxHeartbeats 4000000 in
set_option maxRecDepth 100000 in
theorem c_M_node_3 (l : Launch) (D : va_G) (ct : Nat → ClassId) (st : Nat → Nat) (am : Nat → Nat) (th : Int32) (bu : Int64) (he : Int64) (S : Nat → Int64) (la : Nat) (k : Nat) (h1 : S 243 = 1) (h2 : S 244 = lN la) (h3 : k ≤ la ∧ la ≤ 20) (sz : Nat) : Met l y_M_node (wsy y_M_node b_M_node 3 (some .int)) (rmW 1 0 0 25) (PcW D ct st [.ref (am 0), .int (nI k), .int 3] [((am 0), .inr (8, [.int th, .ref (am 1), .ref (am 2), .ref (am 3), .ref (am 4), .ref (am 5), .long bu, .long he, .ref (am 6), .ref (am 7)])), ((am 1), .inl (ct 1, 334, .inr (.inl S)))] sz) (QcW D [((am 0), .inr (8, [.int th, .ref (am 1), .ref (am 2), .ref (am 3), .ref (am 4), .ref (am 5), .long bu, .long he, .ref (am 6), .ref (am 7)])), ((am 1), .inl (ct 1, 334, .inr (.inl S)))] sz (fun v W1 => v = some (.int (w_gr (S (313 + k)))) ∧ W1 = [((am 0), .inr (8, [.int 0, .ref (am 1), .ref (am 2), .ref (am 3), .ref (am 4), .ref (am 5), .long bu, .long he, .ref (am 6), .ref (am 7)])), ((am 1), .inl (ct 1, 334, .inr (.inl S)))] ∧ (True))) 0 0 (va_A [((am 0), .inr (8, [.int th, .ref (am 1), .ref (am 2), .ref (am 3), .ref (am 4), .ref (am 5), .long bu, .long he, .ref (am 6), .ref (am 7)])), ((am 1), .inl (ct 1, 334, .inr (.inl S)))] sz) := by
  refine enterW (by decide) (Nat.le_of_ble_eq_true rfl) ?_
  intro p e s m args below meth c ls A hx hb hr hml hown hts hlk hin hsz hAe hP hD hA hE hV hS hl
  have hl : lv_has ls 3 [(0, .ref (am 0)), (1, .int (nI k)), (2, .int 3)] := hl
  refine lv_aload_n hx hb d_M_node_0 rfl (lv_at hl 0 rfl) ?_
  refine lv_aload_n hx hb d_M_node_1 rfl (lv_at hl 0 rfl) ?_
  refine q_get 0 1 i_M rfl hx hb hts hown hE hP rfl (by decide) x_937 rfl d_M_node_2 ?_
  refine lv_sipush (v := 243) hx hb d_M_node_5 (by decide) ?_
  refine q_lald (k := 243) 1 hx hb hE hP rfl rfl (by omega) (by decide) d_M_node_8 ?_
  refine q_topl (v := 1) (h1) ?_
  refine lv_lconst (v := 0) hx hb d_M_node_9 (by decide) ?_
  refine W.lcmp hx hb d_M_node_10 ?_
  refine q_cmp_eq (tgt := 31) hx hb d_M_node_11 (by decide) (fun h_11 => absurd h_11 (by decide)) (fun h_11 => ?_)
  refine lv_iload_n hx hb d_M_node_14 rfl (lv_at hl 1 rfl) ?_
  refine lv_i2l (v := lN k) hx hb d_M_node_15 (nI_l (by omega)) ?_
  refine lv_lconst (v := 0) hx hb d_M_node_16 (by decide) ?_
  refine lv_aload_n hx hb d_M_node_17 rfl (lv_at hl 0 rfl) ?_
  refine q_get 0 1 i_M rfl hx hb hts hown hE hP rfl (by decide) x_937 rfl d_M_node_18 ?_
  refine lv_sipush (v := 244) hx hb d_M_node_21 (by decide) ?_
  refine q_lald (k := 244) 1 hx hb hE hP rfl rfl (by omega) (by decide) d_M_node_24 ?_
  refine q_topl (v := lN la) (h2) ?_
  refine cRS (As := [.long (lN k), .long 0, .long (lN la)]) (rest := [.ref (am 0)]) K_M_in x_978 hx hb hml hown hts hE hV hS (c_M_in l D ct st (lN k) 0 (lN la)) (fun k q h => by simp at h) rfl hl.1 rfl (Nat.le_of_ble_eq_true rfl) d_M_node_25 (Nat.le_of_ble_eq_true rfl) (Nat.le_of_ble_eq_true rfl) ⟨Nat.le_of_ble_eq_true rfl, Nat.le_of_ble_eq_true rfl⟩ ?_
  refine q_ifne_b (tgt := 35) hx hb d_M_node_28 (by decide) (fun h_28 => ?_) (fun h_28 => absurd (w_inN (lo := 0) (by omega) (by omega) (by omega)) h_28)
  refine lv_iload_n hx hb d_M_node_35 rfl (lv_at hl 2 rfl) ?_
  refine lv_i2l (v := 3) hx hb d_M_node_36 (by decide) ?_
  refine lv_lconst (v := 0) hx hb d_M_node_37 (by decide) ?_
  refine lv_ldc2 (v := 3) hx hb hown (hts _ (List.mem_cons_of_mem _ x_1045)) d_M_node_38 ?_
  refine cRS (As := [.long 3, .long 0, .long 3]) (rest := [.ref (am 0)]) K_M_in x_978 hx hb hml hown hts hE hV hS (c_M_in l D ct st 3 0 3) (fun k q h => by simp at h) rfl hl.1 rfl (Nat.le_of_ble_eq_true rfl) d_M_node_41 (Nat.le_of_ble_eq_true rfl) (Nat.le_of_ble_eq_true rfl) ⟨Nat.le_of_ble_eq_true rfl, Nat.le_of_ble_eq_true rfl⟩ ?_
  refine q_ifeq_b (tgt := 51) hx hb d_M_node_44 (by decide) (fun h_44 => absurd (w_inN (a := 3) (lo := 0) (hi := 3) (by omega) (by omega) (by omega)) h_44) (fun h_44 => ?_)
  refine lv_iconst (v := 0) hx hb d_M_node_47 (by decide) ?_
  refine lv_goto (tgt := 52) hx hb d_M_node_48 (by decide) ?_
  refine q_put (ty := .int) 0 0 (ws1 := [((am 0), .inr (8, [.int 0, .ref (am 1), .ref (am 2), .ref (am 3), .ref (am 4), .ref (am 5), .long bu, .long he, .ref (am 6), .ref (am 7)])), ((am 1), .inl (ct 1, 334, .inr (.inl S)))]) t_M i_M t_M_ok n_M rfl hx hb hts hown hE hP hD hS rfl (by decide) x_936 rfl (by decide +kernel) (rfl) rfl (Nat.le_of_ble_eq_true rfl) rfl d_M_node_52 (fun H locs hP hD hS => ?_)
  refine lv_aload_n hx hb d_M_node_55 rfl (lv_at hl 0 rfl) ?_
  refine q_get 0 0 i_M rfl hx hb hts hown hE hP rfl (by decide) x_936 rfl d_M_node_56 ?_
  refine lv_if_le (tgt := 66) hx hb d_M_node_59 (by decide) (fun _ => ?_) (fun h => absurd h (by decide))
  refine lv_aload_n hx hb d_M_node_66 rfl (lv_at hl 0 rfl) ?_
  refine q_get 0 1 i_M rfl hx hb hts hown hE hP rfl (by decide) x_937 rfl d_M_node_67 ?_
  refine lv_sipush (v := 250) hx hb d_M_node_70 (by decide) ?_
  refine lv_bipush (v := 21) hx hb d_M_node_73 (by decide) ?_
  refine lv_iload_n hx hb d_M_node_75 rfl (lv_at hl 2 rfl) ?_
  refine q_imul (v := 63) hx hb d_M_node_76 (by decide) ?_
  refine q_iadd (v := 313) hx hb d_M_node_77 (by decide) ?_
  refine lv_iload_n hx hb d_M_node_78 rfl (lv_at hl 1 rfl) ?_
  refine q_iadd (v := nI (313 + k)) hx hb d_M_node_79 (nI_add 313 k) ?_
  refine q_lald (k := 313 + k) 1 hx hb hE hP rfl rfl (by omega) (by decide) d_M_node_80 ?_
  refine cRS (As := [.long (S (313 + k))]) (rest := []) K_M_greatest x_1089 hx hb hml hown hts hE hV hS (c_M_greatest l D ct st (S (313 + k))) (fun k q h => by simp at h) rfl hl.1 rfl (Nat.le_of_ble_eq_true rfl) d_M_node_81 (Nat.le_of_ble_eq_true rfl) (Nat.le_of_ble_eq_true rfl) ⟨Nat.le_of_ble_eq_true rfl, Nat.le_of_ble_eq_true rfl⟩ ?_
  exact rW_i hx hb hr hlk hAe hS hP hD (Nat.le_of_ble_eq_true rfl) (Nat.le_of_ble_eq_true rfl) d_M_node_84 ⟨rfl, rfl, trivial⟩
set_option maxHeartbeats 4000000 in
set_option maxRecDepth 100000 in
theorem c_M_node_b1 (l : Launch) (D : va_G) (ct : Nat → ClassId) (st : Nat → Nat) (am : Nat → Nat) (th : Int32) (bu : Int64) (he : Int64) (S : Nat → Int64) (a0 : Int32) (a1 : Int32) (hb0 : S 243 = 0 ∨ ¬ w_in a0.toInt64 0 (S 244)) (sz : Nat) : Met l y_M_node (wsy y_M_node b_M_node 3 (some .int)) (rmW 1 0 0 25) (PcW D ct st [.ref (am 0), .int a0, .int a1] [((am 0), .inr (8, [.int th, .ref (am 1), .ref (am 2), .ref (am 3), .ref (am 4), .ref (am 5), .long bu, .long he, .ref (am 6), .ref (am 7)])), ((am 1), .inl (ct 1, 334, .inr (.inl S)))] sz) (QcW D [((am 0), .inr (8, [.int th, .ref (am 1), .ref (am 2), .ref (am 3), .ref (am 4), .ref (am 5), .long bu, .long he, .ref (am 6), .ref (am 7)])), ((am 1), .inl (ct 1, 334, .inr (.inl S)))] sz (fun v W1 => v = some (.int 0) ∧ W1 = [((am 0), .inr (8, [.int 1, .ref (am 1), .ref (am 2), .ref (am 3), .ref (am 4), .ref (am 5), .long bu, .long he, .ref (am 6), .ref (am 7)])), ((am 1), .inl (ct 1, 334, .inr (.inl S)))] ∧ (True))) 0 0 (va_A [((am 0), .inr (8, [.int th, .ref (am 1), .ref (am 2), .ref (am 3), .ref (am 4), .ref (am 5), .long bu, .long he, .ref (am 6), .ref (am 7)])), ((am 1), .inl (ct 1, 334, .inr (.inl S)))] sz) := by
  refine enterW (by decide) (Nat.le_of_ble_eq_true rfl) ?_
  intro p e s m args below meth c ls A hx hb hr hml hown hts hlk hin hsz hAe hP hD hA hE hV hS hl
  have hl : lv_has ls 3 [(0, .ref (am 0)), (1, .int a0), (2, .int a1)] := hl
  refine lv_aload_n hx hb d_M_node_0 rfl (lv_at hl 0 rfl) ?_
  refine lv_aload_n hx hb d_M_node_1 rfl (lv_at hl 0 rfl) ?_
  refine q_get 0 1 i_M rfl hx hb hts hown hE hP rfl (by decide) x_937 rfl d_M_node_2 ?_
  refine lv_sipush (v := 243) hx hb d_M_node_5 (by decide) ?_
  refine q_lald (k := 243) 1 hx hb hE hP rfl rfl (by omega) (by decide) d_M_node_8 ?_
  refine lv_lconst (v := 0) hx hb d_M_node_9 (by decide) ?_
  refine W.lcmp hx hb d_M_node_10 ?_
  refine q_cmp_eq (tgt := 31) hx hb d_M_node_11 (by decide) (fun h_11 => ?_) (fun h_11 => ?_)
  · refine lv_iconst (v := 1) hx hb d_M_node_31 (by decide) ?_
    refine lv_goto (tgt := 52) hx hb d_M_node_32 (by decide) ?_
    refine q_put (ty := .int) 0 0 (ws1 := [((am 0), .inr (8, [.int 1, .ref (am 1), .ref (am 2), .ref (am 3), .ref (am 4), .ref (am 5), .long bu, .long he, .ref (am 6), .ref (am 7)])), ((am 1), .inl (ct 1, 334, .inr (.inl S)))]) t_M i_M t_M_ok n_M rfl hx hb hts hown hE hP hD hS rfl (by decide) x_936 rfl (by decide +kernel) (rfl) rfl (Nat.le_of_ble_eq_true rfl) rfl d_M_node_52 (fun H locs hP hD hS => ?_)
    refine lv_aload_n hx hb d_M_node_55 rfl (lv_at hl 0 rfl) ?_
    refine q_get 0 0 i_M rfl hx hb hts hown hE hP rfl (by decide) x_936 rfl d_M_node_56 ?_
    refine lv_if_le (tgt := 66) hx hb d_M_node_59 (by decide) (fun h => absurd h (by decide)) (fun _ => ?_)
    refine lv_iconst (v := 0) hx hb d_M_node_62 (by decide) ?_
    refine lv_goto (tgt := 84) hx hb d_M_node_63 (by decide) ?_
    exact rW_i hx hb hr hlk hAe hS hP hD (Nat.le_of_ble_eq_true rfl) (Nat.le_of_ble_eq_true rfl) d_M_node_84 ⟨rfl, rfl, trivial⟩
  · refine lv_iload_n hx hb d_M_node_14 rfl (lv_at hl 1 rfl) ?_
    refine lv_i2l hx hb d_M_node_15 rfl ?_
    refine lv_lconst (v := 0) hx hb d_M_node_16 (by decide) ?_
    refine lv_aload_n hx hb d_M_node_17 rfl (lv_at hl 0 rfl) ?_
    refine q_get 0 1 i_M rfl hx hb hts hown hE hP rfl (by decide) x_937 rfl d_M_node_18 ?_
    refine lv_sipush (v := 244) hx hb d_M_node_21 (by decide) ?_
    refine q_lald (k := 244) 1 hx hb hE hP rfl rfl (by omega) (by decide) d_M_node_24 ?_
    refine cRS (As := [.long a0.toInt64, .long 0, .long (S 244)]) (rest := [.ref (am 0)]) K_M_in x_978 hx hb hml hown hts hE hV hS (c_M_in l D ct st a0.toInt64 0 (S 244)) (fun k q h => by simp at h) rfl hl.1 rfl (Nat.le_of_ble_eq_true rfl) d_M_node_25 (Nat.le_of_ble_eq_true rfl) (Nat.le_of_ble_eq_true rfl) ⟨Nat.le_of_ble_eq_true rfl, Nat.le_of_ble_eq_true rfl⟩ ?_
    refine q_ifne_b (tgt := 35) hx hb d_M_node_28 (by decide) (fun h_28 => hb0.elim (fun z => absurd z h_11) (fun z => absurd h_28 z)) (fun h_28 => ?_)
    refine lv_iconst (v := 1) hx hb d_M_node_31 (by decide) ?_
    refine lv_goto (tgt := 52) hx hb d_M_node_32 (by decide) ?_
    refine q_put (ty := .int) 0 0 (ws1 := [((am 0), .inr (8, [.int 1, .ref (am 1), .ref (am 2), .ref (am 3), .ref (am 4), .ref (am 5), .long bu, .long he, .ref (am 6), .ref (am 7)])), ((am 1), .inl (ct 1, 334, .inr (.inl S)))]) t_M i_M t_M_ok n_M rfl hx hb hts hown hE hP hD hS rfl (by decide) x_936 rfl (by decide +kernel) (rfl) rfl (Nat.le_of_ble_eq_true rfl) rfl d_M_node_52 (fun H locs hP hD hS => ?_)
    refine lv_aload_n hx hb d_M_node_55 rfl (lv_at hl 0 rfl) ?_
    refine q_get 0 0 i_M rfl hx hb hts hown hE hP rfl (by decide) x_936 rfl d_M_node_56 ?_
    refine lv_if_le (tgt := 66) hx hb d_M_node_59 (by decide) (fun h => absurd h (by decide)) (fun _ => ?_)
    refine lv_iconst (v := 0) hx hb d_M_node_62 (by decide) ?_
    refine lv_goto (tgt := 84) hx hb d_M_node_63 (by decide) ?_
    exact rW_i hx hb hr hlk hAe hS hP hD (Nat.le_of_ble_eq_true rfl) (Nat.le_of_ble_eq_true rfl) d_M_node_84 ⟨rfl, rfl, trivial⟩
set_option maxHeartbeats 4000000 in
set_option maxRecDepth 100000 in
theorem c_M_node_b2 (l : Launch) (D : va_G) (ct : Nat → ClassId) (st : Nat → Nat) (am : Nat → Nat) (th : Int32) (bu : Int64) (he : Int64) (S : Nat → Int64) (a0 : Int32) (a1 : Int32) (hb1 : ¬ S 243 = 0) (hb2 : w_in a0.toInt64 0 (S 244)) (hb0 : ¬ w_in a1.toInt64 0 3) (sz : Nat) : Met l y_M_node (wsy y_M_node b_M_node 3 (some .int)) (rmW 1 0 0 25) (PcW D ct st [.ref (am 0), .int a0, .int a1] [((am 0), .inr (8, [.int th, .ref (am 1), .ref (am 2), .ref (am 3), .ref (am 4), .ref (am 5), .long bu, .long he, .ref (am 6), .ref (am 7)])), ((am 1), .inl (ct 1, 334, .inr (.inl S)))] sz) (QcW D [((am 0), .inr (8, [.int th, .ref (am 1), .ref (am 2), .ref (am 3), .ref (am 4), .ref (am 5), .long bu, .long he, .ref (am 6), .ref (am 7)])), ((am 1), .inl (ct 1, 334, .inr (.inl S)))] sz (fun v W1 => v = some (.int 0) ∧ W1 = [((am 0), .inr (8, [.int 2, .ref (am 1), .ref (am 2), .ref (am 3), .ref (am 4), .ref (am 5), .long bu, .long he, .ref (am 6), .ref (am 7)])), ((am 1), .inl (ct 1, 334, .inr (.inl S)))] ∧ (True))) 0 0 (va_A [((am 0), .inr (8, [.int th, .ref (am 1), .ref (am 2), .ref (am 3), .ref (am 4), .ref (am 5), .long bu, .long he, .ref (am 6), .ref (am 7)])), ((am 1), .inl (ct 1, 334, .inr (.inl S)))] sz) := by
  refine enterW (by decide) (Nat.le_of_ble_eq_true rfl) ?_
  intro p e s m args below meth c ls A hx hb hr hml hown hts hlk hin hsz hAe hP hD hA hE hV hS hl
  have hl : lv_has ls 3 [(0, .ref (am 0)), (1, .int a0), (2, .int a1)] := hl
  refine lv_aload_n hx hb d_M_node_0 rfl (lv_at hl 0 rfl) ?_
  refine lv_aload_n hx hb d_M_node_1 rfl (lv_at hl 0 rfl) ?_
  refine q_get 0 1 i_M rfl hx hb hts hown hE hP rfl (by decide) x_937 rfl d_M_node_2 ?_
  refine lv_sipush (v := 243) hx hb d_M_node_5 (by decide) ?_
  refine q_lald (k := 243) 1 hx hb hE hP rfl rfl (by omega) (by decide) d_M_node_8 ?_
  refine lv_lconst (v := 0) hx hb d_M_node_9 (by decide) ?_
  refine W.lcmp hx hb d_M_node_10 ?_
  refine q_cmp_eq (tgt := 31) hx hb d_M_node_11 (by decide) (fun h_11 => absurd h_11 hb1) (fun h_11 => ?_)
  refine lv_iload_n hx hb d_M_node_14 rfl (lv_at hl 1 rfl) ?_
  refine lv_i2l hx hb d_M_node_15 rfl ?_
  refine lv_lconst (v := 0) hx hb d_M_node_16 (by decide) ?_
  refine lv_aload_n hx hb d_M_node_17 rfl (lv_at hl 0 rfl) ?_
  refine q_get 0 1 i_M rfl hx hb hts hown hE hP rfl (by decide) x_937 rfl d_M_node_18 ?_
  refine lv_sipush (v := 244) hx hb d_M_node_21 (by decide) ?_
  refine q_lald (k := 244) 1 hx hb hE hP rfl rfl (by omega) (by decide) d_M_node_24 ?_
  refine cRS (As := [.long a0.toInt64, .long 0, .long (S 244)]) (rest := [.ref (am 0)]) K_M_in x_978 hx hb hml hown hts hE hV hS (c_M_in l D ct st a0.toInt64 0 (S 244)) (fun k q h => by simp at h) rfl hl.1 rfl (Nat.le_of_ble_eq_true rfl) d_M_node_25 (Nat.le_of_ble_eq_true rfl) (Nat.le_of_ble_eq_true rfl) ⟨Nat.le_of_ble_eq_true rfl, Nat.le_of_ble_eq_true rfl⟩ ?_
  refine q_ifne_b (tgt := 35) hx hb d_M_node_28 (by decide) (fun h_28 => ?_) (fun h_28 => absurd hb2 h_28)
  refine lv_iload_n hx hb d_M_node_35 rfl (lv_at hl 2 rfl) ?_
  refine lv_i2l hx hb d_M_node_36 rfl ?_
  refine lv_lconst (v := 0) hx hb d_M_node_37 (by decide) ?_
  refine lv_ldc2 (v := 3) hx hb hown (hts _ (List.mem_cons_of_mem _ x_1045)) d_M_node_38 ?_
  refine cRS (As := [.long a1.toInt64, .long 0, .long 3]) (rest := [.ref (am 0)]) K_M_in x_978 hx hb hml hown hts hE hV hS (c_M_in l D ct st a1.toInt64 0 3) (fun k q h => by simp at h) rfl hl.1 rfl (Nat.le_of_ble_eq_true rfl) d_M_node_41 (Nat.le_of_ble_eq_true rfl) (Nat.le_of_ble_eq_true rfl) ⟨Nat.le_of_ble_eq_true rfl, Nat.le_of_ble_eq_true rfl⟩ ?_
  refine q_ifeq_b (tgt := 51) hx hb d_M_node_44 (by decide) (fun h_44 => ?_) (fun h_44 => absurd h_44 hb0)
  refine lv_iconst (v := 2) hx hb d_M_node_51 (by decide) ?_
  refine q_put (ty := .int) 0 0 (ws1 := [((am 0), .inr (8, [.int 2, .ref (am 1), .ref (am 2), .ref (am 3), .ref (am 4), .ref (am 5), .long bu, .long he, .ref (am 6), .ref (am 7)])), ((am 1), .inl (ct 1, 334, .inr (.inl S)))]) t_M i_M t_M_ok n_M rfl hx hb hts hown hE hP hD hS rfl (by decide) x_936 rfl (by decide +kernel) (rfl) rfl (Nat.le_of_ble_eq_true rfl) rfl d_M_node_52 (fun H locs hP hD hS => ?_)
  refine lv_aload_n hx hb d_M_node_55 rfl (lv_at hl 0 rfl) ?_
  refine q_get 0 0 i_M rfl hx hb hts hown hE hP rfl (by decide) x_936 rfl d_M_node_56 ?_
  refine lv_if_le (tgt := 66) hx hb d_M_node_59 (by decide) (fun h => absurd h (by decide)) (fun _ => ?_)
  refine lv_iconst (v := 0) hx hb d_M_node_62 (by decide) ?_
  refine lv_goto (tgt := 84) hx hb d_M_node_63 (by decide) ?_
  exact rW_i hx hb hr hlk hAe hS hP hD (Nat.le_of_ble_eq_true rfl) (Nat.le_of_ble_eq_true rfl) d_M_node_84 ⟨rfl, rfl, trivial⟩
theorem kj {j k : Nat} (h : j < 4) (hk : k < 334) : 334 * j + k < 1336 := by omega
set_option maxHeartbeats 4000000 in
set_option maxRecDepth 100000 in
theorem c_M_keep_ok (l : Launch) (D : va_G) (ct : Nat → ClassId) (st : Nat → Nat) (am : Nat → Nat) (th : Int32) (bu : Int64) (he : Int64) (S : Nat → Int64) (Kp : Nat → Int64) (Zk : Nat → Int32) (sl : Nat) (h1 : sl < 4) (sz : Nat) : Met l y_M_keep (wsy y_M_keep b_M_keep 3 (none)) (rmW 1 0 0 25) (PcW D ct st [.ref (am 0), .int (nI sl)] [((am 0), .inr (8, [.int th, .ref (am 1), .ref (am 2), .ref (am 3), .ref (am 4), .ref (am 5), .long bu, .long he, .ref (am 6), .ref (am 7)])), ((am 1), .inl (ct 1, 334, .inr (.inl S))), ((am 2), .inl (ct 1, 1336, .inr (.inl Kp))), ((am 3), .inl (ct 2, 4, .inl Zk))] sz) (QcW D [((am 0), .inr (8, [.int th, .ref (am 1), .ref (am 2), .ref (am 3), .ref (am 4), .ref (am 5), .long bu, .long he, .ref (am 6), .ref (am 7)])), ((am 1), .inl (ct 1, 334, .inr (.inl S))), ((am 2), .inl (ct 1, 1336, .inr (.inl Kp))), ((am 3), .inl (ct 2, 4, .inl Zk))] sz (fun v W1 => ∃ (kept1 : Nat → Int64), v = none ∧ W1 = [((am 0), .inr (8, [.int 0, .ref (am 1), .ref (am 2), .ref (am 3), .ref (am 4), .ref (am 5), .long bu, .long he, .ref (am 6), .ref (am 7)])), ((am 1), .inl (ct 1, 334, .inr (.inl S))), ((am 2), .inl (ct 1, 1336, .inr (.inl kept1))), ((am 3), .inl (ct 2, 4, .inl (upd Zk sl 1)))] ∧ ((∀ j, j < 334 → kept1 (334 * sl + j) = S j) ∧ ∀ j, (j < 334 * sl ∨ 334 * sl + 334 ≤ j) → kept1 j = Kp j))) 0 0 (va_A [((am 0), .inr (8, [.int th, .ref (am 1), .ref (am 2), .ref (am 3), .ref (am 4), .ref (am 5), .long bu, .long he, .ref (am 6), .ref (am 7)])), ((am 1), .inl (ct 1, 334, .inr (.inl S))), ((am 2), .inl (ct 1, 1336, .inr (.inl Kp))), ((am 3), .inl (ct 2, 4, .inl Zk))] sz) := by
  refine enterW (by decide) (Nat.le_of_ble_eq_true rfl) ?_
  intro p e s m args below meth c ls A hx hb hr hml hown hts hlk hin hsz hAe hP hD hA hE hV hS hl
  have hl : lv_has ls 3 [(0, .ref (am 0)), (1, .int (nI sl))] := hl
  refine lv_aload_n hx hb d_M_keep_0 rfl (lv_at hl 0 rfl) ?_
  refine lv_iload_n hx hb d_M_keep_1 rfl (lv_at hl 1 rfl) ?_
  refine lv_i2l (v := lN sl) hx hb d_M_keep_2 (nI_l (by omega)) ?_
  refine lv_lconst (v := 0) hx hb d_M_keep_3 (by decide) ?_
  refine lv_ldc2 (v := 3) hx hb hown (hts _ (List.mem_cons_of_mem _ x_1045)) d_M_keep_4 ?_
  refine cRS (As := [.long (lN sl), .long 0, .long 3]) (rest := [.ref (am 0)]) K_M_in x_978 hx hb hml hown hts hE hV hS (c_M_in l D ct st (lN sl) 0 3) (fun k q h => by simp at h) rfl hl.1 rfl (Nat.le_of_ble_eq_true rfl) d_M_keep_7 (Nat.le_of_ble_eq_true rfl) (Nat.le_of_ble_eq_true rfl) ⟨Nat.le_of_ble_eq_true rfl, Nat.le_of_ble_eq_true rfl⟩ ?_
  refine q_ifeq_b (tgt := 17) hx hb d_M_keep_10 (by decide) (fun h_10 => absurd (w_inN (lo := 0) (hi := 3) (by omega) (by omega) (by omega)) h_10) (fun h_10 => ?_)
  refine lv_iconst (v := 0) hx hb d_M_keep_13 (by decide) ?_
  refine lv_goto (tgt := 18) hx hb d_M_keep_14 (by decide) ?_
  refine q_put (ty := .int) 0 0 (ws1 := [((am 0), .inr (8, [.int 0, .ref (am 1), .ref (am 2), .ref (am 3), .ref (am 4), .ref (am 5), .long bu, .long he, .ref (am 6), .ref (am 7)])), ((am 1), .inl (ct 1, 334, .inr (.inl S))), ((am 2), .inl (ct 1, 1336, .inr (.inl Kp))), ((am 3), .inl (ct 2, 4, .inl Zk))]) t_M i_M t_M_ok n_M rfl hx hb hts hown hE hP hD hS rfl (by decide) x_936 rfl (by decide +kernel) (rfl) rfl (Nat.le_of_ble_eq_true rfl) rfl d_M_keep_18 (fun H locs hP hD hS => ?_)
  refine lv_aload_n hx hb d_M_keep_21 rfl (lv_at hl 0 rfl) ?_
  refine q_get 0 0 i_M rfl hx hb hts hown hE hP rfl (by decide) x_936 rfl d_M_keep_22 ?_
  refine lv_if_ne (tgt := 68) hx hb d_M_keep_25 (by decide) (fun h => absurd h (by decide)) (fun _ => ?_)
  refine lv_aload_n hx hb d_M_keep_28 rfl (lv_at hl 0 rfl) ?_
  refine q_get 0 3 i_M rfl hx hb hts hown hE hP rfl (by decide) x_939 rfl d_M_keep_29 ?_
  refine lv_iload_n hx hb d_M_keep_32 rfl (lv_at hl 1 rfl) ?_
  refine lv_iconst (v := 1) hx hb d_M_keep_33 (by decide) ?_
  obtain ⟨isk_1, eisk_1⟩ : ∃ g9 : Nat → Int32, g9 = upd Zk sl (vp_nar .boolean 1) := ⟨_, rfl⟩
  refine q_zast (k := sl) 3 (ws1 := [((am 0), .inr (8, [.int 0, .ref (am 1), .ref (am 2), .ref (am 3), .ref (am 4), .ref (am 5), .long bu, .long he, .ref (am 6), .ref (am 7)])), ((am 1), .inl (ct 1, 334, .inr (.inl S))), ((am 2), .inl (ct 1, 1336, .inr (.inl Kp))), ((am 3), .inl (ct 2, 4, .inl isk_1))]) eisk_1 hx hb hE hP hD hS rfl rfl (by omega) (by decide) rfl d_M_keep_34 (fun H locs hP hD hS => ?_)
  have ez9 : isk_1 = upd Zk sl 1 := eisk_1
  rw [ez9] at hP hD
  refine lv_iconst (v := 0) hx hb d_M_keep_35 (by decide) ?_
  refine lv_istore_n (lv' := [(2, .int 0), (0, .ref (am 0)), (1, .int (nI sl))]) hx hb d_M_keep_36 rfl hl (by decide) rfl (fun ls hl => ?_)
  have loop_37 : ∀ (n9 : Nat) (i : Nat) (K1 : Nat → Int64) (hi : i ≤ 334) (hA : ∀ j, j < i → K1 (334 * sl + j) = S j) (hB : ∀ j, (j < 334 * sl ∨ 334 * sl + i ≤ j) → K1 j = Kp j) (hn9 : 334 - i < n9) (H : Heap) (locs : List Loc) (ls : Array Slot), va_P D classes [((am 0), .inr (8, [.int 0, .ref (am 1), .ref (am 2), .ref (am 3), .ref (am 4), .ref (am 5), .long bu, .long he, .ref (am 6), .ref (am 7)])), ((am 1), .inl (ct 1, 334, .inr (.inl S))), ((am 2), .inl (ct 1, 1336, .inr (.inl K1))), ((am 3), .inl (ct 2, 4, .inl (upd Zk sl 1)))] H → va_D A [((am 0), .inr (8, [.int 0, .ref (am 1), .ref (am 2), .ref (am 3), .ref (am 4), .ref (am 5), .long bu, .long he, .ref (am 6), .ref (am 7)])), ((am 1), .inl (ct 1, 334, .inr (.inl S))), ((am 2), .inl (ct 1, 1336, .inr (.inl K1))), ((am 3), .inl (ct 2, 4, .inl (upd Zk sl 1)))] → va_S A s.heap H locs → lv_has ls 3 [(0, .ref (am 0)), (1, .int (nI sl)), (2, .int (nI i))] → W p l e (rmW 1 0 0 25) s m args below meth c H locs (0) (0) (MQ below (QcW D [((am 0), .inr (8, [.int th, .ref (am 1), .ref (am 2), .ref (am 3), .ref (am 4), .ref (am 5), .long bu, .long he, .ref (am 6), .ref (am 7)])), ((am 1), .inl (ct 1, 334, .inr (.inl S))), ((am 2), .inl (ct 1, 1336, .inr (.inl Kp))), ((am 3), .inl (ct 2, 4, .inl Zk))] sz (fun v W1 => ∃ (kept1 : Nat → Int64), v = none ∧ W1 = [((am 0), .inr (8, [.int 0, .ref (am 1), .ref (am 2), .ref (am 3), .ref (am 4), .ref (am 5), .long bu, .long he, .ref (am 6), .ref (am 7)])), ((am 1), .inl (ct 1, 334, .inr (.inl S))), ((am 2), .inl (ct 1, 1336, .inr (.inl kept1))), ((am 3), .inl (ct 2, 4, .inl (upd Zk sl 1)))] ∧ ((∀ j, j < 334 → kept1 (334 * sl + j) = S j) ∧ ∀ j, (j < 334 * sl ∨ 334 * sl + 334 ≤ j) → kept1 j = Kp j))) args s 0 0 A) (F0 m 37 ls []) := by
    intro n9
    induction n9 with
    | zero => intro i K1 hi hA hB hn9 H locs ls hP hD hS hl; exact absurd hn9 (Nat.not_lt_zero _)
    | succ n9 ih_37 =>
      intro i K1 hi hA hB hn9 H locs ls hP hD hS hl
      refine lv_iload_n hx hb d_M_keep_37 rfl (lv_at hl 2 rfl) ?_
      refine lv_sipush (v := 334) hx hb d_M_keep_38 (by decide) ?_
      refine q_icmp_ge_n (a := i) (b := 334) (tgt := 68) hx hb d_M_keep_41 (by decide) rfl rfl (by omega) (by omega) (fun h_41 => ?_) (fun h_41 => ?_)
      · exact rW_v hx hb hr hlk hAe hS hP hD (Nat.le_of_ble_eq_true rfl) (Nat.le_of_ble_eq_true rfl) d_M_keep_68 ⟨K1, rfl, rfl, ⟨fun j hj => hA j (by omega), fun j hj => hB j (by omega)⟩⟩
      · refine lv_aload_n hx hb d_M_keep_44 rfl (lv_at hl 0 rfl) ?_
        refine q_get 0 2 i_M rfl hx hb hts hown hE hP rfl (by decide) x_938 rfl d_M_keep_45 ?_
        refine lv_sipush (v := 334) hx hb d_M_keep_48 (by decide) ?_
        refine lv_iload_n hx hb d_M_keep_51 rfl (lv_at hl 1 rfl) ?_
        refine q_imul (v := nI (334 * sl)) hx hb d_M_keep_52 (pk_mul 334 sl) ?_
        refine lv_iload_n hx hb d_M_keep_53 rfl (lv_at hl 2 rfl) ?_
        refine q_iadd (v := nI ((334 * sl) + i)) hx hb d_M_keep_54 (nI_add (334 * sl) i) ?_
        refine lv_aload_n hx hb d_M_keep_55 rfl (lv_at hl 0 rfl) ?_
        refine q_get 0 1 i_M rfl hx hb hts hown hE hP rfl (by decide) x_937 rfl d_M_keep_56 ?_
        refine lv_iload_n hx hb d_M_keep_59 rfl (lv_at hl 2 rfl) ?_
        refine q_lald (k := i) 1 hx hb hE hP rfl rfl (by omega) (by decide) d_M_keep_60 ?_
        obtain ⟨kept_1, ekept_1⟩ : ∃ g9 : Nat → Int64, g9 = vp_updL K1 ((334 * sl) + i) (S i) := ⟨_, rfl⟩
        refine q_last (k := (334 * sl) + i) 2 (ws1 := [((am 0), .inr (8, [.int 0, .ref (am 1), .ref (am 2), .ref (am 3), .ref (am 4), .ref (am 5), .long bu, .long he, .ref (am 6), .ref (am 7)])), ((am 1), .inl (ct 1, 334, .inr (.inl S))), ((am 2), .inl (ct 1, 1336, .inr (.inl kept_1))), ((am 3), .inl (ct 2, 4, .inl (upd Zk sl 1)))]) ekept_1 hx hb hE hP hD hS rfl rfl (by omega) (by decide) rfl d_M_keep_61 (fun H locs hP hD hS => ?_)
        refine lv_iinc (v := (nI (i + 1))) (lv' := [(2, .int (nI (i + 1))), (0, .ref (am 0)), (1, .int (nI sl))]) hx hb d_M_keep_62 hl (k := 2) rfl (nI_1 _) (by decide) rfl (fun ls hl => ?_)
        refine lv_goto (tgt := 37) hx hb d_M_keep_65 (by decide) ?_
        exact ih_37 (i + 1) kept_1 (by omega) (fun j hj => by
                                        rcases Nat.lt_succ_iff_lt_or_eq.mp hj with q | rfl
                                        · simp (disch := omega) only [ekept_1, pk_uLn, pk_uLs]; exact hA j q
                                        · simp (disch := omega) only [ekept_1, pk_uLn, pk_uLs]) (fun j hj => by simp (disch := omega) only [ekept_1, pk_uLn, pk_uLs]; exact hB j (by omega)) (by omega) _ _ _ hP hD hS (lv_sub hl [1, 2, 0] rfl)
  exact loop_37 _ 0 Kp (by omega) (fun j hj => absurd hj (Nat.not_lt_zero _)) (fun _ _ => rfl) (Nat.lt_succ_self _) _ _ _ hP hD hS (lv_sub hl [1, 2, 0] rfl)
set_option maxHeartbeats 4000000 in
set_option maxRecDepth 100000 in
theorem c_M_goBack_ok (l : Launch) (D : va_G) (ct : Nat → ClassId) (st : Nat → Nat) (am : Nat → Nat) (th : Int32) (bu : Int64) (he : Int64) (S : Nat → Int64) (Kp : Nat → Int64) (Zk : Nat → Int32) (sl : Nat) (h1 : sl < 4) (h2 : Zk sl = 1) (sz : Nat) : Met l y_M_goBack (wsy y_M_goBack b_M_goBack 3 (none)) (rmW 1 0 0 25) (PcW D ct st [.ref (am 0), .int (nI sl)] [((am 0), .inr (8, [.int th, .ref (am 1), .ref (am 2), .ref (am 3), .ref (am 4), .ref (am 5), .long bu, .long he, .ref (am 6), .ref (am 7)])), ((am 1), .inl (ct 1, 334, .inr (.inl S))), ((am 2), .inl (ct 1, 1336, .inr (.inl Kp))), ((am 3), .inl (ct 2, 4, .inl Zk))] sz) (QcW D [((am 0), .inr (8, [.int th, .ref (am 1), .ref (am 2), .ref (am 3), .ref (am 4), .ref (am 5), .long bu, .long he, .ref (am 6), .ref (am 7)])), ((am 1), .inl (ct 1, 334, .inr (.inl S))), ((am 2), .inl (ct 1, 1336, .inr (.inl Kp))), ((am 3), .inl (ct 2, 4, .inl Zk))] sz (fun v W1 => ∃ (s1 : Nat → Int64), v = none ∧ W1 = [((am 0), .inr (8, [.int 0, .ref (am 1), .ref (am 2), .ref (am 3), .ref (am 4), .ref (am 5), .long bu, .long he, .ref (am 6), .ref (am 7)])), ((am 1), .inl (ct 1, 334, .inr (.inl s1))), ((am 2), .inl (ct 1, 1336, .inr (.inl Kp))), ((am 3), .inl (ct 2, 4, .inl Zk))] ∧ (∀ j, j < 334 → s1 j = Kp (334 * sl + j)))) 0 0 (va_A [((am 0), .inr (8, [.int th, .ref (am 1), .ref (am 2), .ref (am 3), .ref (am 4), .ref (am 5), .long bu, .long he, .ref (am 6), .ref (am 7)])), ((am 1), .inl (ct 1, 334, .inr (.inl S))), ((am 2), .inl (ct 1, 1336, .inr (.inl Kp))), ((am 3), .inl (ct 2, 4, .inl Zk))] sz) := by
  refine enterW (by decide) (Nat.le_of_ble_eq_true rfl) ?_
  intro p e s m args below meth c ls A hx hb hr hml hown hts hlk hin hsz hAe hP hD hA hE hV hS hl
  have hl : lv_has ls 3 [(0, .ref (am 0)), (1, .int (nI sl))] := hl
  refine lv_aload_n hx hb d_M_goBack_0 rfl (lv_at hl 0 rfl) ?_
  refine lv_iload_n hx hb d_M_goBack_1 rfl (lv_at hl 1 rfl) ?_
  refine lv_i2l (v := lN sl) hx hb d_M_goBack_2 (nI_l (by omega)) ?_
  refine lv_lconst (v := 0) hx hb d_M_goBack_3 (by decide) ?_
  refine lv_ldc2 (v := 3) hx hb hown (hts _ (List.mem_cons_of_mem _ x_1045)) d_M_goBack_4 ?_
  refine cRS (As := [.long (lN sl), .long 0, .long 3]) (rest := [.ref (am 0)]) K_M_in x_978 hx hb hml hown hts hE hV hS (c_M_in l D ct st (lN sl) 0 3) (fun k q h => by simp at h) rfl hl.1 rfl (Nat.le_of_ble_eq_true rfl) d_M_goBack_7 (Nat.le_of_ble_eq_true rfl) (Nat.le_of_ble_eq_true rfl) ⟨Nat.le_of_ble_eq_true rfl, Nat.le_of_ble_eq_true rfl⟩ ?_
  refine q_ifne_b (tgt := 17) hx hb d_M_goBack_10 (by decide) (fun h_10 => ?_) (fun h_10 => absurd (w_inN (lo := 0) (hi := 3) (by omega) (by omega) (by omega)) h_10)
  refine lv_aload_n hx hb d_M_goBack_17 rfl (lv_at hl 0 rfl) ?_
  refine q_get 0 3 i_M rfl hx hb hts hown hE hP rfl (by decide) x_939 rfl d_M_goBack_18 ?_
  refine lv_iload_n hx hb d_M_goBack_21 rfl (lv_at hl 1 rfl) ?_
  refine q_zald (k := sl) 3 hx hb hE hP rfl rfl (by omega) (by decide) d_M_goBack_22 ?_
  refine lv_if_eq (tgt := 30) hx hb d_M_goBack_23 (by decide) (fun h_23 => absurd (h2.symm.trans h_23) (by decide)) (fun h_23 => ?_)
  refine lv_iconst (v := 0) hx hb d_M_goBack_26 (by decide) ?_
  refine lv_goto (tgt := 31) hx hb d_M_goBack_27 (by decide) ?_
  refine q_put (ty := .int) 0 0 (ws1 := [((am 0), .inr (8, [.int 0, .ref (am 1), .ref (am 2), .ref (am 3), .ref (am 4), .ref (am 5), .long bu, .long he, .ref (am 6), .ref (am 7)])), ((am 1), .inl (ct 1, 334, .inr (.inl S))), ((am 2), .inl (ct 1, 1336, .inr (.inl Kp))), ((am 3), .inl (ct 2, 4, .inl Zk))]) t_M i_M t_M_ok n_M rfl hx hb hts hown hE hP hD hS rfl (by decide) x_936 rfl (by decide +kernel) (rfl) rfl (Nat.le_of_ble_eq_true rfl) rfl d_M_goBack_31 (fun H locs hP hD hS => ?_)
  refine lv_aload_n hx hb d_M_goBack_34 rfl (lv_at hl 0 rfl) ?_
  refine q_get 0 0 i_M rfl hx hb hts hown hE hP rfl (by decide) x_936 rfl d_M_goBack_35 ?_
  refine lv_if_ne (tgt := 74) hx hb d_M_goBack_38 (by decide) (fun h => absurd h (by decide)) (fun _ => ?_)
  refine lv_iconst (v := 0) hx hb d_M_goBack_41 (by decide) ?_
  refine lv_istore_n (lv' := [(2, .int 0), (0, .ref (am 0)), (1, .int (nI sl))]) hx hb d_M_goBack_42 rfl hl (by decide) rfl (fun ls hl => ?_)
  have loop_43 : ∀ (n9 : Nat) (i : Nat) (T : Nat → Int64) (hi : i ≤ 334) (hA : ∀ j, j < i → T j = Kp (334 * sl + j)) (hn9 : 334 - i < n9) (H : Heap) (locs : List Loc) (ls : Array Slot), va_P D classes [((am 0), .inr (8, [.int 0, .ref (am 1), .ref (am 2), .ref (am 3), .ref (am 4), .ref (am 5), .long bu, .long he, .ref (am 6), .ref (am 7)])), ((am 1), .inl (ct 1, 334, .inr (.inl T))), ((am 2), .inl (ct 1, 1336, .inr (.inl Kp))), ((am 3), .inl (ct 2, 4, .inl Zk))] H → va_D A [((am 0), .inr (8, [.int 0, .ref (am 1), .ref (am 2), .ref (am 3), .ref (am 4), .ref (am 5), .long bu, .long he, .ref (am 6), .ref (am 7)])), ((am 1), .inl (ct 1, 334, .inr (.inl T))), ((am 2), .inl (ct 1, 1336, .inr (.inl Kp))), ((am 3), .inl (ct 2, 4, .inl Zk))] → va_S A s.heap H locs → lv_has ls 3 [(0, .ref (am 0)), (1, .int (nI sl)), (2, .int (nI i))] → W p l e (rmW 1 0 0 25) s m args below meth c H locs (0) (0) (MQ below (QcW D [((am 0), .inr (8, [.int th, .ref (am 1), .ref (am 2), .ref (am 3), .ref (am 4), .ref (am 5), .long bu, .long he, .ref (am 6), .ref (am 7)])), ((am 1), .inl (ct 1, 334, .inr (.inl S))), ((am 2), .inl (ct 1, 1336, .inr (.inl Kp))), ((am 3), .inl (ct 2, 4, .inl Zk))] sz (fun v W1 => ∃ (s1 : Nat → Int64), v = none ∧ W1 = [((am 0), .inr (8, [.int 0, .ref (am 1), .ref (am 2), .ref (am 3), .ref (am 4), .ref (am 5), .long bu, .long he, .ref (am 6), .ref (am 7)])), ((am 1), .inl (ct 1, 334, .inr (.inl s1))), ((am 2), .inl (ct 1, 1336, .inr (.inl Kp))), ((am 3), .inl (ct 2, 4, .inl Zk))] ∧ (∀ j, j < 334 → s1 j = Kp (334 * sl + j)))) args s 0 0 A) (F0 m 43 ls []) := by
    intro n9
    induction n9 with
    | zero => intro i T hi hA hn9 H locs ls hP hD hS hl; exact absurd hn9 (Nat.not_lt_zero _)
    | succ n9 ih_43 =>
      intro i T hi hA hn9 H locs ls hP hD hS hl
      refine lv_iload_n hx hb d_M_goBack_43 rfl (lv_at hl 2 rfl) ?_
      refine lv_sipush (v := 334) hx hb d_M_goBack_44 (by decide) ?_
      refine q_icmp_ge_n (a := i) (b := 334) (tgt := 74) hx hb d_M_goBack_47 (by decide) rfl rfl (by omega) (by omega) (fun h_47 => ?_) (fun h_47 => ?_)
      · exact rW_v hx hb hr hlk hAe hS hP hD (Nat.le_of_ble_eq_true rfl) (Nat.le_of_ble_eq_true rfl) d_M_goBack_74 ⟨T, rfl, rfl, fun j hj => hA j (by omega)⟩
      · refine lv_aload_n hx hb d_M_goBack_50 rfl (lv_at hl 0 rfl) ?_
        refine q_get 0 1 i_M rfl hx hb hts hown hE hP rfl (by decide) x_937 rfl d_M_goBack_51 ?_
        refine lv_iload_n hx hb d_M_goBack_54 rfl (lv_at hl 2 rfl) ?_
        refine lv_aload_n hx hb d_M_goBack_55 rfl (lv_at hl 0 rfl) ?_
        refine q_get 0 2 i_M rfl hx hb hts hown hE hP rfl (by decide) x_938 rfl d_M_goBack_56 ?_
        refine lv_sipush (v := 334) hx hb d_M_goBack_59 (by decide) ?_
        refine lv_iload_n hx hb d_M_goBack_62 rfl (lv_at hl 1 rfl) ?_
        refine q_imul (v := nI (334 * sl)) hx hb d_M_goBack_63 (pk_mul 334 sl) ?_
        refine lv_iload_n hx hb d_M_goBack_64 rfl (lv_at hl 2 rfl) ?_
        refine q_iadd (v := nI ((334 * sl) + i)) hx hb d_M_goBack_65 (nI_add (334 * sl) i) ?_
        refine q_lald (k := (334 * sl) + i) 2 hx hb hE hP rfl rfl (by omega) (by decide) d_M_goBack_66 ?_
        obtain ⟨s_1, es_1⟩ : ∃ g9 : Nat → Int64, g9 = vp_updL T i (Kp ((334 * sl) + i)) := ⟨_, rfl⟩
        refine q_last (k := i) 1 (ws1 := [((am 0), .inr (8, [.int 0, .ref (am 1), .ref (am 2), .ref (am 3), .ref (am 4), .ref (am 5), .long bu, .long he, .ref (am 6), .ref (am 7)])), ((am 1), .inl (ct 1, 334, .inr (.inl s_1))), ((am 2), .inl (ct 1, 1336, .inr (.inl Kp))), ((am 3), .inl (ct 2, 4, .inl Zk))]) es_1 hx hb hE hP hD hS rfl rfl (by omega) (by decide) rfl d_M_goBack_67 (fun H locs hP hD hS => ?_)
        refine lv_iinc (v := (nI (i + 1))) (lv' := [(2, .int (nI (i + 1))), (0, .ref (am 0)), (1, .int (nI sl))]) hx hb d_M_goBack_68 hl (k := 2) rfl (nI_1 _) (by decide) rfl (fun ls hl => ?_)
        refine lv_goto (tgt := 43) hx hb d_M_goBack_71 (by decide) ?_
        exact ih_43 (i + 1) s_1 (by omega) (fun j hj => by
                                        rcases Nat.lt_succ_iff_lt_or_eq.mp hj with q | rfl
                                        · simp (disch := omega) only [es_1, pk_uLn, pk_uLs]; exact hA j q
                                        · simp (disch := omega) only [es_1, pk_uLn, pk_uLs]) (by omega) _ _ _ hP hD hS (lv_sub hl [1, 2, 0] rfl)
  exact loop_43 _ 0 S (by omega) (fun j hj => absurd hj (Nat.not_lt_zero _)) (Nat.lt_succ_self _) _ _ _ hP hD hS (lv_sub hl [1, 2, 0] rfl)
set_option maxHeartbeats 4000000 in
set_option maxRecDepth 100000 in
theorem c_M_goBack_b1 (l : Launch) (D : va_G) (ct : Nat → ClassId) (st : Nat → Nat) (am : Nat → Nat) (th : Int32) (bu : Int64) (he : Int64) (S : Nat → Int64) (Kp : Nat → Int64) (Zk : Nat → Int32) (a0 : Int32) (hb0 : ¬ w_in a0.toInt64 0 3) (sz : Nat) : Met l y_M_goBack (wsy y_M_goBack b_M_goBack 3 (none)) (rmW 1 0 0 25) (PcW D ct st [.ref (am 0), .int a0] [((am 0), .inr (8, [.int th, .ref (am 1), .ref (am 2), .ref (am 3), .ref (am 4), .ref (am 5), .long bu, .long he, .ref (am 6), .ref (am 7)])), ((am 1), .inl (ct 1, 334, .inr (.inl S))), ((am 2), .inl (ct 1, 1336, .inr (.inl Kp))), ((am 3), .inl (ct 2, 4, .inl Zk))] sz) (QcW D [((am 0), .inr (8, [.int th, .ref (am 1), .ref (am 2), .ref (am 3), .ref (am 4), .ref (am 5), .long bu, .long he, .ref (am 6), .ref (am 7)])), ((am 1), .inl (ct 1, 334, .inr (.inl S))), ((am 2), .inl (ct 1, 1336, .inr (.inl Kp))), ((am 3), .inl (ct 2, 4, .inl Zk))] sz (fun v W1 => v = none ∧ W1 = [((am 0), .inr (8, [.int 1, .ref (am 1), .ref (am 2), .ref (am 3), .ref (am 4), .ref (am 5), .long bu, .long he, .ref (am 6), .ref (am 7)])), ((am 1), .inl (ct 1, 334, .inr (.inl S))), ((am 2), .inl (ct 1, 1336, .inr (.inl Kp))), ((am 3), .inl (ct 2, 4, .inl Zk))] ∧ (True))) 0 0 (va_A [((am 0), .inr (8, [.int th, .ref (am 1), .ref (am 2), .ref (am 3), .ref (am 4), .ref (am 5), .long bu, .long he, .ref (am 6), .ref (am 7)])), ((am 1), .inl (ct 1, 334, .inr (.inl S))), ((am 2), .inl (ct 1, 1336, .inr (.inl Kp))), ((am 3), .inl (ct 2, 4, .inl Zk))] sz) := by
  refine enterW (by decide) (Nat.le_of_ble_eq_true rfl) ?_
  intro p e s m args below meth c ls A hx hb hr hml hown hts hlk hin hsz hAe hP hD hA hE hV hS hl
  have hl : lv_has ls 3 [(0, .ref (am 0)), (1, .int a0)] := hl
  refine lv_aload_n hx hb d_M_goBack_0 rfl (lv_at hl 0 rfl) ?_
  refine lv_iload_n hx hb d_M_goBack_1 rfl (lv_at hl 1 rfl) ?_
  refine lv_i2l hx hb d_M_goBack_2 rfl ?_
  refine lv_lconst (v := 0) hx hb d_M_goBack_3 (by decide) ?_
  refine lv_ldc2 (v := 3) hx hb hown (hts _ (List.mem_cons_of_mem _ x_1045)) d_M_goBack_4 ?_
  refine cRS (As := [.long a0.toInt64, .long 0, .long 3]) (rest := [.ref (am 0)]) K_M_in x_978 hx hb hml hown hts hE hV hS (c_M_in l D ct st a0.toInt64 0 3) (fun k q h => by simp at h) rfl hl.1 rfl (Nat.le_of_ble_eq_true rfl) d_M_goBack_7 (Nat.le_of_ble_eq_true rfl) (Nat.le_of_ble_eq_true rfl) ⟨Nat.le_of_ble_eq_true rfl, Nat.le_of_ble_eq_true rfl⟩ ?_
  refine q_ifne_b (tgt := 17) hx hb d_M_goBack_10 (by decide) (fun h_10 => absurd h_10 hb0) (fun h_10 => ?_)
  refine lv_iconst (v := 1) hx hb d_M_goBack_13 (by decide) ?_
  refine lv_goto (tgt := 31) hx hb d_M_goBack_14 (by decide) ?_
  refine q_put (ty := .int) 0 0 (ws1 := [((am 0), .inr (8, [.int 1, .ref (am 1), .ref (am 2), .ref (am 3), .ref (am 4), .ref (am 5), .long bu, .long he, .ref (am 6), .ref (am 7)])), ((am 1), .inl (ct 1, 334, .inr (.inl S))), ((am 2), .inl (ct 1, 1336, .inr (.inl Kp))), ((am 3), .inl (ct 2, 4, .inl Zk))]) t_M i_M t_M_ok n_M rfl hx hb hts hown hE hP hD hS rfl (by decide) x_936 rfl (by decide +kernel) (rfl) rfl (Nat.le_of_ble_eq_true rfl) rfl d_M_goBack_31 (fun H locs hP hD hS => ?_)
  refine lv_aload_n hx hb d_M_goBack_34 rfl (lv_at hl 0 rfl) ?_
  refine q_get 0 0 i_M rfl hx hb hts hown hE hP rfl (by decide) x_936 rfl d_M_goBack_35 ?_
  refine lv_if_ne (tgt := 74) hx hb d_M_goBack_38 (by decide) (fun _ => ?_) (fun h => absurd h (by decide))
  exact rW_v hx hb hr hlk hAe hS hP hD (Nat.le_of_ble_eq_true rfl) (Nat.le_of_ble_eq_true rfl) d_M_goBack_74 ⟨rfl, rfl, trivial⟩
set_option maxHeartbeats 4000000 in
set_option maxRecDepth 100000 in
theorem c_M_goBack_b2 (l : Launch) (D : va_G) (ct : Nat → ClassId) (st : Nat → Nat) (am : Nat → Nat) (th : Int32) (bu : Int64) (he : Int64) (S : Nat → Int64) (Kp : Nat → Int64) (Zk : Nat → Int32) (sl : Nat) (h1 : sl < 4) (h2 : Zk sl = 0) (sz : Nat) : Met l y_M_goBack (wsy y_M_goBack b_M_goBack 3 (none)) (rmW 1 0 0 25) (PcW D ct st [.ref (am 0), .int (nI sl)] [((am 0), .inr (8, [.int th, .ref (am 1), .ref (am 2), .ref (am 3), .ref (am 4), .ref (am 5), .long bu, .long he, .ref (am 6), .ref (am 7)])), ((am 1), .inl (ct 1, 334, .inr (.inl S))), ((am 2), .inl (ct 1, 1336, .inr (.inl Kp))), ((am 3), .inl (ct 2, 4, .inl Zk))] sz) (QcW D [((am 0), .inr (8, [.int th, .ref (am 1), .ref (am 2), .ref (am 3), .ref (am 4), .ref (am 5), .long bu, .long he, .ref (am 6), .ref (am 7)])), ((am 1), .inl (ct 1, 334, .inr (.inl S))), ((am 2), .inl (ct 1, 1336, .inr (.inl Kp))), ((am 3), .inl (ct 2, 4, .inl Zk))] sz (fun v W1 => v = none ∧ W1 = [((am 0), .inr (8, [.int 2, .ref (am 1), .ref (am 2), .ref (am 3), .ref (am 4), .ref (am 5), .long bu, .long he, .ref (am 6), .ref (am 7)])), ((am 1), .inl (ct 1, 334, .inr (.inl S))), ((am 2), .inl (ct 1, 1336, .inr (.inl Kp))), ((am 3), .inl (ct 2, 4, .inl Zk))] ∧ (True))) 0 0 (va_A [((am 0), .inr (8, [.int th, .ref (am 1), .ref (am 2), .ref (am 3), .ref (am 4), .ref (am 5), .long bu, .long he, .ref (am 6), .ref (am 7)])), ((am 1), .inl (ct 1, 334, .inr (.inl S))), ((am 2), .inl (ct 1, 1336, .inr (.inl Kp))), ((am 3), .inl (ct 2, 4, .inl Zk))] sz) := by
  refine enterW (by decide) (Nat.le_of_ble_eq_true rfl) ?_
  intro p e s m args below meth c ls A hx hb hr hml hown hts hlk hin hsz hAe hP hD hA hE hV hS hl
  have hl : lv_has ls 3 [(0, .ref (am 0)), (1, .int (nI sl))] := hl
  refine lv_aload_n hx hb d_M_goBack_0 rfl (lv_at hl 0 rfl) ?_
  refine lv_iload_n hx hb d_M_goBack_1 rfl (lv_at hl 1 rfl) ?_
  refine lv_i2l (v := lN sl) hx hb d_M_goBack_2 (nI_l (by omega)) ?_
  refine lv_lconst (v := 0) hx hb d_M_goBack_3 (by decide) ?_
  refine lv_ldc2 (v := 3) hx hb hown (hts _ (List.mem_cons_of_mem _ x_1045)) d_M_goBack_4 ?_
  refine cRS (As := [.long (lN sl), .long 0, .long 3]) (rest := [.ref (am 0)]) K_M_in x_978 hx hb hml hown hts hE hV hS (c_M_in l D ct st (lN sl) 0 3) (fun k q h => by simp at h) rfl hl.1 rfl (Nat.le_of_ble_eq_true rfl) d_M_goBack_7 (Nat.le_of_ble_eq_true rfl) (Nat.le_of_ble_eq_true rfl) ⟨Nat.le_of_ble_eq_true rfl, Nat.le_of_ble_eq_true rfl⟩ ?_
  refine q_ifne_b (tgt := 17) hx hb d_M_goBack_10 (by decide) (fun h_10 => ?_) (fun h_10 => absurd (w_inN (lo := 0) (hi := 3) (by omega) (by omega) (by omega)) h_10)
  refine lv_aload_n hx hb d_M_goBack_17 rfl (lv_at hl 0 rfl) ?_
  refine q_get 0 3 i_M rfl hx hb hts hown hE hP rfl (by decide) x_939 rfl d_M_goBack_18 ?_
  refine lv_iload_n hx hb d_M_goBack_21 rfl (lv_at hl 1 rfl) ?_
  refine q_zald (k := sl) 3 hx hb hE hP rfl rfl (by omega) (by decide) d_M_goBack_22 ?_
  refine lv_if_eq (tgt := 30) hx hb d_M_goBack_23 (by decide) (fun h_23 => ?_) (fun h_23 => absurd h2 h_23)
  refine lv_iconst (v := 2) hx hb d_M_goBack_30 (by decide) ?_
  refine q_put (ty := .int) 0 0 (ws1 := [((am 0), .inr (8, [.int 2, .ref (am 1), .ref (am 2), .ref (am 3), .ref (am 4), .ref (am 5), .long bu, .long he, .ref (am 6), .ref (am 7)])), ((am 1), .inl (ct 1, 334, .inr (.inl S))), ((am 2), .inl (ct 1, 1336, .inr (.inl Kp))), ((am 3), .inl (ct 2, 4, .inl Zk))]) t_M i_M t_M_ok n_M rfl hx hb hts hown hE hP hD hS rfl (by decide) x_936 rfl (by decide +kernel) (rfl) rfl (Nat.le_of_ble_eq_true rfl) rfl d_M_goBack_31 (fun H locs hP hD hS => ?_)
  refine lv_aload_n hx hb d_M_goBack_34 rfl (lv_at hl 0 rfl) ?_
  refine q_get 0 0 i_M rfl hx hb hts hown hE hP rfl (by decide) x_936 rfl d_M_goBack_35 ?_
  refine lv_if_ne (tgt := 74) hx hb d_M_goBack_38 (by decide) (fun _ => ?_) (fun h => absurd h (by decide))
  exact rW_v hx hb hr hlk hAe hS hP hD (Nat.le_of_ble_eq_true rfl) (Nat.le_of_ble_eq_true rfl) d_M_goBack_74 ⟨rfl, rfl, trivial⟩
