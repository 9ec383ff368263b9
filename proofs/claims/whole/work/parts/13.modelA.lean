/-! several steps, one behind the other -/
def Chn (t : Int64) (g n lft rgt : Nat) (S : Nat → Int64) (k : Nat) (T : Nat → Int64) : Prop := ∃ X9 : Nat → (Nat → Int64), X9 0 = S ∧ X9 k = T ∧ ∀ j, j < k → sOk t g n lft rgt (X9 j) ∧ SStp t g n lft rgt (X9 j) (X9 (j + 1))
theorem Chn.zero {t : Int64} {g n lft rgt : Nat} {S : Nat → Int64} : Chn t g n lft rgt S 0 S := ⟨fun _ => S, rfl, rfl, fun j hj => absurd hj (Nat.not_lt_zero _)⟩
theorem Chn.ext {t : Int64} {g n lft rgt : Nat} {S T T1 : Nat → Int64} {k : Nat} (h : Chn t g n lft rgt S k T) (h1 : sOk t g n lft rgt T) (h2 : SStp t g n lft rgt T T1) : Chn t g n lft rgt S (k + 1) T1 := by
  obtain ⟨X9, a, b, c⟩ := h
  refine ⟨fun j => if j ≤ k then X9 j else T1, by simp [a], if_neg (show ¬ k + 1 ≤ k by omega), fun j hj => ?_⟩
  rcases Nat.lt_succ_iff_lt_or_eq.mp hj with q | rfl
  · have := c j q
    simp only [if_pos (show j ≤ k by omega), if_pos (show j + 1 ≤ k by omega)]
    exact this
  · simp only [if_pos (Nat.le_refl j), if_neg (show ¬ j + 1 ≤ j by omega), b]
    exact ⟨h1, h2⟩
theorem stp_mk {t : Int64} {g n lft rgt : Nat} {S s1 G R : Nat → Int64} {bu he : Int64} (hn : 2 ≤ n)
    (hA : (∀ b, b ≤ n → G b = w_g0 t g (sM S) (sP S) (sE S) n lft rgt b ∧ G (33 + b) = w_g1 t g (sM S) (sP S) (sE S) n lft rgt b ∧ G (66 + b) = w_g2 t g (sM S) (sP S) (sE S) n lft rgt b ∧ G (99 + b) = w_g3 t g (sM S) (sP S) (sE S) (sF S) n lft rgt b) ∧ (∀ j, j < n → R j = w_f0 t g (sM S) (sP S) (sE S) (sF S) n lft rgt j ∧ R (32 + j) = w_f1 t g (sM S) (sP S) (sE S) (sF S) n lft rgt j ∧ R (64 + j) = w_e2 t g (sM S) (sP S) (sE S) (sF S) n lft rgt (S 1) (S 2) (S 3) j ∧ R (96 + j) = w_f4 t g (sM S) (sP S) (sE S) (sF S) n lft rgt (S 1) (S 2) j) ∧ bu = w_sum (w_gn t g (sM S) (sP S) (sE S) (sF S) n lft rgt (S 1) (S 2)) n ∧ he = w_sum (fun j => w_gn t g (sM S) (sP S) (sE S) (sF S) n lft rgt (S 1) (S 2) j * S 3) n)
    (hB : (∀ j, j < n → s1 (8 + j) = R j ∧ s1 (40 + j) = R (32 + j) ∧ s1 (72 + j) = R (64 + j) ∧ s1 (104 + j) = R (96 + j)) ∧ s1 7 = S 7 + 1 ∧ (s1 136 = S 136 + (G 0 - G n) ∧ s1 137 = S 137 + (G 33 - G (33 + n)) ∧ s1 138 = S 138 + (G 66 - G (66 + n)) ∧ s1 139 = S 139 + (G 99 - G (99 + n))) ∧ (s1 140 = S 140 + he ∧ s1 141 = S 141 + bu) ∧ (∀ j, j < n → s1 (146 + j) = (if S (146 + j) < w_pres g (w_within (R j) (R (32 + j)) (R (64 + j))) then w_pres g (w_within (R j) (R (32 + j)) (R (64 + j))) else S (146 + j)) ∧ s1 (178 + j) = (if S (146 + j) < w_pres g (w_within (R j) (R (32 + j)) (R (64 + j))) then S 7 + 1 else S (178 + j))) ∧ ∀ j, j < 7 ∨ (142 ≤ j ∧ j < 146) ∨ 210 ≤ j → s1 j = S j) :
    SStp t g n lft rgt S s1 := by
  obtain ⟨a1, a2, a3, a4⟩ := hA
  obtain ⟨b1, b2, b3, b4, b5, b6⟩ := hB
  obtain ⟨z0, z1, z2, z3⟩ := a1 0 (by omega)
  obtain ⟨y0, y1, y2, y3⟩ := a1 n (by omega)
  refine ⟨fun j hj => ?_, b2, ?_, ?_, fun j hj => ?_, b6⟩
  · obtain ⟨q0, q1, q2, q3⟩ := b1 j hj
    obtain ⟨r0, r1, r2, r3⟩ := a2 j hj
    exact ⟨q0.trans r0, q1.trans r1, q2.trans r2, q3.trans r3⟩
  · rw [z0, y0, y1, y2, y3, show G 33 = _ from z1, show G 66 = _ from z2, show G 99 = _ from z3] at b3
    exact b3
  · rw [a3, a4] at b4
    exact b4
  · obtain ⟨q0, q1, q2, q3⟩ := b1 j hj
    have := b5 j hj
    rw [← q0, ← q1, ← q2] at this
    exact this
theorem w_inN {a lo hi : Nat} (h1 : lo ≤ a) (h2 : a ≤ hi) (h : hi < 2 ^ 31) : w_in (lN a) (lN lo) (lN hi) := ⟨(lN_le (by omega) (by omega)).mpr h1, (lN_le (by omega) (by omega)).mpr h2⟩

set_option maxHeartbeats 4000000 in
set_option maxRecDepth 100000 in
theorem c_M_step_ok (l : Launch) (D : va_G) (ct : Nat → ClassId) (st : Nat → Nat) (am : Nat → Nat) (th : Int32) (bu : Int64) (he : Int64) (S : Nat → Int64) (G : Nat → Int64) (R : Nat → Int64) (g : Nat) (n : Nat) (lft : Nat) (rgt : Nat) (tt : Nat) (mm : Nat) (ns : Nat) (hT : TS S g n lft rgt) (ht : 1 ≤ tt ∧ tt ≤ 400) (hm : 1 ≤ mm ∧ mm ≤ 50) (hns : S 7 = lN ns ∧ ns + mm ≤ 300) (sz : Nat) : Met l y_M_step (wsy y_M_step b_M_step 4 (some .int)) (rmW 8 0 0 211) (PcW D ct st [.ref (am 0), .int (nI tt), .int (nI mm)] [((am 0), .inr (8, [.int th, .ref (am 1), .ref (am 2), .ref (am 3), .ref (am 4), .ref (am 5), .long bu, .long he, .ref (am 6), .ref (am 7)])), ((am 1), .inl (ct 1, 334, .inr (.inl S))), ((am 4), .inl (ct 1, 132, .inr (.inl G))), ((am 5), .inl (ct 1, 128, .inr (.inl R)))] sz) (QcW D [((am 0), .inr (8, [.int th, .ref (am 1), .ref (am 2), .ref (am 3), .ref (am 4), .ref (am 5), .long bu, .long he, .ref (am 6), .ref (am 7)])), ((am 1), .inl (ct 1, 334, .inr (.inl S))), ((am 4), .inl (ct 1, 132, .inr (.inl G))), ((am 5), .inl (ct 1, 128, .inr (.inl R)))] sz (fun v W1 => ∃ (bu1 : Int64) (he1 : Int64) (s1 : Nat → Int64) (goes1 : Nat → Int64) (fresh1 : Nat → Int64) (k9 : Nat), v = some (.int (nI k9)) ∧ W1 = [((am 0), .inr (8, [.int 0, .ref (am 1), .ref (am 2), .ref (am 3), .ref (am 4), .ref (am 5), .long bu1, .long he1, .ref (am 6), .ref (am 7)])), ((am 1), .inl (ct 1, 334, .inr (.inl s1))), ((am 4), .inl (ct 1, 132, .inr (.inl goes1))), ((am 5), .inl (ct 1, 128, .inr (.inl fresh1)))] ∧ (TS s1 g n lft rgt ∧ Chn (lN tt) g n lft rgt S k9 s1 ∧ k9 ≤ mm ∧ (k9 < mm → ¬ sOk (lN tt) g n lft rgt s1) ∧ s1 7 = lN (ns + k9)))) 0 0 (va_A [((am 0), .inr (8, [.int th, .ref (am 1), .ref (am 2), .ref (am 3), .ref (am 4), .ref (am 5), .long bu, .long he, .ref (am 6), .ref (am 7)])), ((am 1), .inl (ct 1, 334, .inr (.inl S))), ((am 4), .inl (ct 1, 132, .inr (.inl G))), ((am 5), .inl (ct 1, 128, .inr (.inl R)))] sz) := by
  refine enterW (by decide) (Nat.le_of_ble_eq_true rfl) ?_
  intro p e s m args below meth c ls A hx hb hr hml hown hts hlk hin hsz hAe hP hD hA hE hV hS hl
  have hl : lv_has ls 4 [(0, .ref (am 0)), (1, .int (nI tt)), (2, .int (nI mm))] := hl
  have ht9 : 1 ≤ (lN tt).toInt ∧ (lN tt).toInt ≤ 400 := by rw [lN_toInt (by omega)]; omega
  refine lv_aload_n hx hb d_M_step_0 rfl (lv_at hl 0 rfl) ?_
  refine lv_iload_n hx hb d_M_step_1 rfl (lv_at hl 1 rfl) ?_
  refine lv_i2l (v := lN tt) hx hb d_M_step_2 (nI_l (by omega)) ?_
  refine lv_lconst (v := 1) hx hb d_M_step_3 (by decide) ?_
  refine lv_ldc2 (v := 400) hx hb hown (hts _ (List.mem_cons_of_mem _ x_1016)) d_M_step_4 ?_
  refine cRS (As := [.long (lN tt), .long 1, .long 400]) (rest := [.ref (am 0)]) K_M_in x_978 hx hb hml hown hts hE hV hS (c_M_in l D ct st (lN tt) 1 400) (fun k q h => by simp at h) rfl hl.1 rfl (Nat.le_of_ble_eq_true rfl) d_M_step_7 (Nat.le_of_ble_eq_true rfl) (Nat.le_of_ble_eq_true rfl) ⟨Nat.le_of_ble_eq_true rfl, Nat.le_of_ble_eq_true rfl⟩ ?_
  refine q_ifeq_b (tgt := 25) hx hb d_M_step_10 (by decide) (fun h_10 => absurd (w_inN (lo := 1) (hi := 400) (by omega) (by omega) (by omega)) h_10) (fun h_10 => ?_)
  refine lv_iload_n hx hb d_M_step_13 rfl (lv_at hl 2 rfl) ?_
  refine lv_i2l (v := lN mm) hx hb d_M_step_14 (nI_l (by omega)) ?_
  refine lv_lconst (v := 1) hx hb d_M_step_15 (by decide) ?_
  refine lv_ldc2 (v := 50) hx hb hown (hts _ (List.mem_cons_of_mem _ x_1017)) d_M_step_16 ?_
  refine cRS (As := [.long (lN mm), .long 1, .long 50]) (rest := [.ref (am 0)]) K_M_in x_978 hx hb hml hown hts hE hV hS (c_M_in l D ct st (lN mm) 1 50) (fun k q h => by simp at h) rfl hl.1 rfl (Nat.le_of_ble_eq_true rfl) d_M_step_19 (Nat.le_of_ble_eq_true rfl) (Nat.le_of_ble_eq_true rfl) ⟨Nat.le_of_ble_eq_true rfl, Nat.le_of_ble_eq_true rfl⟩ ?_
  refine q_ifne_b (tgt := 29) hx hb d_M_step_22 (by decide) (fun h_22 => ?_) (fun h_22 => absurd (w_inN (lo := 1) (hi := 50) (by omega) (by omega) (by omega)) h_22)
  refine lv_aload_n hx hb d_M_step_29 rfl (lv_at hl 0 rfl) ?_
  refine q_get 0 1 i_M rfl hx hb hts hown hE hP rfl (by decide) x_937 rfl d_M_step_30 ?_
  refine lv_bipush (v := 7) hx hb d_M_step_33 (by decide) ?_
  refine q_lald (k := 7) 1 hx hb hE hP rfl rfl (by omega) (by decide) d_M_step_35 ?_
  refine q_topl (v := lN ns) (hns.1) ?_
  refine lv_iload_n hx hb d_M_step_36 rfl (lv_at hl 2 rfl) ?_
  refine lv_i2l (v := lN mm) hx hb d_M_step_37 (nI_l (by omega)) ?_
  refine lv_ladd hx hb d_M_step_38 ?_
  refine q_topl (v := lN (ns + mm)) (lN_add _ _) ?_
  refine lv_ldc2 (v := 300) hx hb hown (hts _ (List.mem_cons_of_mem _ x_1018)) d_M_step_39 ?_
  refine W.lcmp hx hb d_M_step_42 ?_
  refine q_cmp_le (tgt := 50) hx hb d_M_step_43 (by decide) (fun h_43 => ?_) (fun h_43 => absurd ((lN_le (a := ns + mm) (b := 300) (by omega) (by omega)).mpr hns.2) h_43)
  refine lv_iconst (v := 0) hx hb d_M_step_50 (by decide) ?_
  refine q_put (ty := .int) 0 0 (ws1 := [((am 0), .inr (8, [.int 0, .ref (am 1), .ref (am 2), .ref (am 3), .ref (am 4), .ref (am 5), .long bu, .long he, .ref (am 6), .ref (am 7)])), ((am 1), .inl (ct 1, 334, .inr (.inl S))), ((am 4), .inl (ct 1, 132, .inr (.inl G))), ((am 5), .inl (ct 1, 128, .inr (.inl R)))]) t_M i_M t_M_ok n_M rfl hx hb hts hown hE hP hD hS rfl (by decide) x_936 rfl (by decide +kernel) (rfl) rfl (Nat.le_of_ble_eq_true rfl) rfl d_M_step_51 (fun H locs hP hD hS => ?_)
  refine lv_iconst (v := 0) hx hb d_M_step_54 (by decide) ?_
  refine lv_istore_n (lv' := [(3, .int 0), (0, .ref (am 0)), (1, .int (nI tt)), (2, .int (nI mm))]) hx hb d_M_step_55 rfl hl (by decide) rfl (fun ls hl => ?_)
  have loop_56 : ∀ (n9 : Nat) (k : Nat) (T : Nat → Int64) (b1 : Int64) (h1 : Int64) (G1 : Nat → Int64) (R1 : Nat → Int64) (hk : k ≤ mm) (hTT : TS T g n lft rgt) (hch : Chn (lN tt) g n lft rgt S k T) (hn7 : T 7 = lN (ns + k)) (hn9 : mm - k < n9) (H : Heap) (locs : List Loc) (ls : Array Slot), va_P D classes [((am 0), .inr (8, [.int 0, .ref (am 1), .ref (am 2), .ref (am 3), .ref (am 4), .ref (am 5), .long b1, .long h1, .ref (am 6), .ref (am 7)])), ((am 1), .inl (ct 1, 334, .inr (.inl T))), ((am 4), .inl (ct 1, 132, .inr (.inl G1))), ((am 5), .inl (ct 1, 128, .inr (.inl R1)))] H → va_D A [((am 0), .inr (8, [.int 0, .ref (am 1), .ref (am 2), .ref (am 3), .ref (am 4), .ref (am 5), .long b1, .long h1, .ref (am 6), .ref (am 7)])), ((am 1), .inl (ct 1, 334, .inr (.inl T))), ((am 4), .inl (ct 1, 132, .inr (.inl G1))), ((am 5), .inl (ct 1, 128, .inr (.inl R1)))] → va_S A s.heap H locs → lv_has ls 4 [(0, .ref (am 0)), (1, .int (nI tt)), (2, .int (nI mm)), (3, .int (nI k))] → W p l e (rmW 8 0 0 211) s m args below meth c H locs (0) (0) (MQ below (QcW D [((am 0), .inr (8, [.int th, .ref (am 1), .ref (am 2), .ref (am 3), .ref (am 4), .ref (am 5), .long bu, .long he, .ref (am 6), .ref (am 7)])), ((am 1), .inl (ct 1, 334, .inr (.inl S))), ((am 4), .inl (ct 1, 132, .inr (.inl G))), ((am 5), .inl (ct 1, 128, .inr (.inl R)))] sz (fun v W1 => ∃ (bu1 : Int64) (he1 : Int64) (s1 : Nat → Int64) (goes1 : Nat → Int64) (fresh1 : Nat → Int64) (k9 : Nat), v = some (.int (nI k9)) ∧ W1 = [((am 0), .inr (8, [.int 0, .ref (am 1), .ref (am 2), .ref (am 3), .ref (am 4), .ref (am 5), .long bu1, .long he1, .ref (am 6), .ref (am 7)])), ((am 1), .inl (ct 1, 334, .inr (.inl s1))), ((am 4), .inl (ct 1, 132, .inr (.inl goes1))), ((am 5), .inl (ct 1, 128, .inr (.inl fresh1)))] ∧ (TS s1 g n lft rgt ∧ Chn (lN tt) g n lft rgt S k9 s1 ∧ k9 ≤ mm ∧ (k9 < mm → ¬ sOk (lN tt) g n lft rgt s1) ∧ s1 7 = lN (ns + k9)))) args s 0 0 A) (F0 m 56 ls []) := by
    intro n9
    induction n9 with
    | zero => intro k T b1 h1 G1 R1 hk hTT hch hn7 hn9 H locs ls hP hD hS hl; exact absurd hn9 (Nat.not_lt_zero _)
    | succ n9 ih_56 =>
      intro k T b1 h1 G1 R1 hk hTT hch hn7 hn9 H locs ls hP hD hS hl
      refine lv_aload_n hx hb d_M_step_56 rfl (lv_at hl 0 rfl) ?_
      refine q_get 0 0 i_M rfl hx hb hts hown hE hP rfl (by decide) x_936 rfl d_M_step_57 ?_
      refine lv_if_ne (tgt := 87) hx hb d_M_step_60 (by decide) (fun h => absurd h (by decide)) (fun _ => ?_)
      refine lv_iload_n hx hb d_M_step_63 rfl (lv_at hl 3 rfl) ?_
      refine lv_iload_n hx hb d_M_step_64 rfl (lv_at hl 2 rfl) ?_
      refine q_icmp_ge_n (a := k) (b := mm) (tgt := 87) hx hb d_M_step_65 (by decide) rfl rfl (by omega) (by omega) (fun h_65 => ?_) (fun h_65 => ?_)
      · refine lv_iload_n hx hb d_M_step_87 rfl (lv_at hl 3 rfl) ?_
        exact rW_i hx hb hr hlk hAe hS hP hD (Nat.le_of_ble_eq_true rfl) (Nat.le_of_ble_eq_true rfl) d_M_step_88 ⟨b1, h1, T, G1, R1, k, rfl, rfl, ⟨hTT, hch, hk, by first | exact fun _ => h_74 | exact fun z => by omega, hn7⟩⟩
      · refine lv_aload_n hx hb d_M_step_68 rfl (lv_at hl 0 rfl) ?_
        refine lv_iload_n hx hb d_M_step_69 rfl (lv_at hl 1 rfl) ?_
        refine lv_i2l (v := lN tt) hx hb d_M_step_70 (nI_l (by omega)) ?_
        refine cWV (As := [.long (lN tt)]) (rest := []) (q9 := 0) (ci := 8) K_M_stepped x_1019 hx hb hml hown hts hE hV hS (c_M_stepped l D ct st am 0 b1 h1 T G1 R1 g n lft rgt (lN tt) (hTT) _) hP hD hA [0, 1, 2, 3] [] (wr := []) rfl rfl (by decide) (by decide) (by decide) rfl hP rfl rfl hl.1 rfl (Nat.le_of_ble_eq_true rfl) d_M_step_71 (Nat.le_of_ble_eq_true rfl) (Nat.le_of_ble_eq_true rfl) ⟨Nat.le_of_ble_eq_true rfl, Nat.le_of_ble_eq_true rfl⟩ (fun v W1 H locs hpost hP hD hS => ?_)
        obtain ⟨bu1_1, he1_1, goes1_1, fresh1_1, rfl, rfl, hq_71⟩ := hpost
        have hP : va_P D classes [((am 0), .inr (8, [.int 0, .ref (am 1), .ref (am 2), .ref (am 3), .ref (am 4), .ref (am 5), .long bu1_1, .long he1_1, .ref (am 6), .ref (am 7)])), ((am 1), .inl (ct 1, 334, .inr (.inl T))), ((am 4), .inl (ct 1, 132, .inr (.inl goes1_1))), ((am 5), .inl (ct 1, 128, .inr (.inl fresh1_1)))] H := hP
        have hD : va_D A [((am 0), .inr (8, [.int 0, .ref (am 1), .ref (am 2), .ref (am 3), .ref (am 4), .ref (am 5), .long bu1_1, .long he1_1, .ref (am 6), .ref (am 7)])), ((am 1), .inl (ct 1, 334, .inr (.inl T))), ((am 4), .inl (ct 1, 132, .inr (.inl goes1_1))), ((am 5), .inl (ct 1, 128, .inr (.inl fresh1_1)))] := hD
        refine q_ifeq_b (tgt := 87) hx hb d_M_step_74 (by decide) (fun h_74 => ?_) (fun h_74 => ?_)
        · refine lv_iload_n hx hb d_M_step_87 rfl (lv_at hl 3 rfl) ?_
          exact rW_i hx hb hr hlk hAe hS hP hD (Nat.le_of_ble_eq_true rfl) (Nat.le_of_ble_eq_true rfl) d_M_step_88 ⟨bu1_1, he1_1, T, goes1_1, fresh1_1, k, rfl, rfl, ⟨hTT, hch, hk, by first | exact fun _ => h_74 | exact fun z => by omega, hn7⟩⟩
        · refine lv_aload_n hx hb d_M_step_77 rfl (lv_at hl 0 rfl) ?_
          refine cWV (As := []) (rest := []) (q9 := 0) (ci := 8) K_M_takesStep x_1081 hx hb hml hown hts hE hV hS (c_M_takesStep l D ct st am 0 bu1_1 he1_1 T goes1_1 fresh1_1 g n lft rgt (hTT) (fun j hj => by rw [((hq_71 h_74).2.1 j hj).1]; exact w_inm (h_74.2 j hj).1.1) _) hP hD hA [0, 1, 2, 3] [] (wr := []) rfl rfl (by decide) (by decide) (by decide) rfl hP rfl rfl hl.1 rfl (Nat.le_of_ble_eq_true rfl) d_M_step_78 (Nat.le_of_ble_eq_true rfl) (Nat.le_of_ble_eq_true rfl) ⟨Nat.le_of_ble_eq_true rfl, Nat.le_of_ble_eq_true rfl⟩ (fun v W1 H locs hpost hP hD hS => ?_)
          obtain ⟨s1_1, rfl, rfl, hq_78⟩ := hpost
          have hP : va_P D classes [((am 0), .inr (8, [.int 0, .ref (am 1), .ref (am 2), .ref (am 3), .ref (am 4), .ref (am 5), .long bu1_1, .long he1_1, .ref (am 6), .ref (am 7)])), ((am 1), .inl (ct 1, 334, .inr (.inl s1_1))), ((am 4), .inl (ct 1, 132, .inr (.inl goes1_1))), ((am 5), .inl (ct 1, 128, .inr (.inl fresh1_1)))] H := hP
          have hD : va_D A [((am 0), .inr (8, [.int 0, .ref (am 1), .ref (am 2), .ref (am 3), .ref (am 4), .ref (am 5), .long bu1_1, .long he1_1, .ref (am 6), .ref (am 7)])), ((am 1), .inl (ct 1, 334, .inr (.inl s1_1))), ((am 4), .inl (ct 1, 132, .inr (.inl goes1_1))), ((am 5), .inl (ct 1, 128, .inr (.inl fresh1_1)))] := hD
          refine lv_iinc (v := (nI (k + 1))) (lv' := [(3, .int (nI (k + 1))), (0, .ref (am 0)), (1, .int (nI tt)), (2, .int (nI mm))]) hx hb d_M_step_81 hl (k := 3) rfl (nI_1 _) (by decide) rfl (fun ls hl => ?_)
          refine lv_goto (tgt := 56) hx hb d_M_step_84 (by decide) ?_
          have hst := stp_mk hTT.2.2.1.1 (hq_71 h_74) hq_78
          exact ih_56 (k + 1) s1_1 bu1_1 he1_1 goes1_1 fresh1_1 (by omega) (hTT.next ht9 h_74 hst) (hch.ext h_74 hst) (by rw [hst.2.1, hn7]; exact lN_1 _) (by omega) _ _ _ hP hD hS (lv_sub hl [1, 2, 3, 0] rfl)
  exact loop_56 _ 0 S bu he G R (by omega) (hT) (Chn.zero) (hns.1) (Nat.lt_succ_self _) _ _ _ hP hD hS (lv_sub hl [1, 2, 3, 0] rfl)
noncomputable def w_thr_step (a b c : Int64) : Int32 := @ite _ (w_in a 1 400 ∧ w_in b 1 50) (Classical.propDecidable _) (if 300 < c + b then 2 else 0) 1
set_option maxHeartbeats 4000000 in
set_option maxRecDepth 100000 in
theorem c_M_step_bad (l : Launch) (D : va_G) (ct : Nat → ClassId) (st : Nat → Nat) (am : Nat → Nat) (th : Int32) (bu : Int64) (he : Int64) (S : Nat → Int64) (tI : Int32) (mI : Int32) (hbad : ¬ (w_in tI.toInt64 1 400 ∧ w_in mI.toInt64 1 50 ∧ S 7 + mI.toInt64 ≤ 300)) (sz : Nat) : Met l y_M_step (wsy y_M_step b_M_step 4 (some .int)) (rmW 1 0 0 25) (PcW D ct st [.ref (am 0), .int tI, .int mI] [((am 0), .inr (8, [.int th, .ref (am 1), .ref (am 2), .ref (am 3), .ref (am 4), .ref (am 5), .long bu, .long he, .ref (am 6), .ref (am 7)])), ((am 1), .inl (ct 1, 334, .inr (.inl S)))] sz) (QcW D [((am 0), .inr (8, [.int th, .ref (am 1), .ref (am 2), .ref (am 3), .ref (am 4), .ref (am 5), .long bu, .long he, .ref (am 6), .ref (am 7)])), ((am 1), .inl (ct 1, 334, .inr (.inl S)))] sz (fun v W1 => ∃ (th1 : Int32), v = some (.int 0) ∧ W1 = [((am 0), .inr (8, [.int th1, .ref (am 1), .ref (am 2), .ref (am 3), .ref (am 4), .ref (am 5), .long bu, .long he, .ref (am 6), .ref (am 7)])), ((am 1), .inl (ct 1, 334, .inr (.inl S)))] ∧ (th1 = w_thr_step tI.toInt64 mI.toInt64 (S 7)))) 0 0 (va_A [((am 0), .inr (8, [.int th, .ref (am 1), .ref (am 2), .ref (am 3), .ref (am 4), .ref (am 5), .long bu, .long he, .ref (am 6), .ref (am 7)])), ((am 1), .inl (ct 1, 334, .inr (.inl S)))] sz) := by
  refine enterW (by decide) (Nat.le_of_ble_eq_true rfl) ?_
  intro p e s m args below meth c ls A hx hb hr hml hown hts hlk hin hsz hAe hP hD hA hE hV hS hl
  have hl : lv_has ls 4 [(0, .ref (am 0)), (1, .int tI), (2, .int mI)] := hl
  refine lv_aload_n hx hb d_M_step_0 rfl (lv_at hl 0 rfl) ?_
  refine lv_iload_n hx hb d_M_step_1 rfl (lv_at hl 1 rfl) ?_
  refine lv_i2l hx hb d_M_step_2 rfl ?_
  refine lv_lconst (v := 1) hx hb d_M_step_3 (by decide) ?_
  refine lv_ldc2 (v := 400) hx hb hown (hts _ (List.mem_cons_of_mem _ x_1016)) d_M_step_4 ?_
  refine cRS (As := [.long tI.toInt64, .long 1, .long 400]) (rest := [.ref (am 0)]) K_M_in x_978 hx hb hml hown hts hE hV hS (c_M_in l D ct st tI.toInt64 1 400) (fun k q h => by simp at h) rfl hl.1 rfl (Nat.le_of_ble_eq_true rfl) d_M_step_7 (Nat.le_of_ble_eq_true rfl) (Nat.le_of_ble_eq_true rfl) ⟨Nat.le_of_ble_eq_true rfl, Nat.le_of_ble_eq_true rfl⟩ ?_
  refine q_ifeq_b (tgt := 25) hx hb d_M_step_10 (by decide) (fun h_10 => ?_) (fun h_10 => ?_)
  · refine lv_iconst (v := 1) hx hb d_M_step_25 (by decide) ?_
    refine lv_goto (tgt := 51) hx hb d_M_step_26 (by decide) ?_
    refine q_put (ty := .int) 0 0 (ws1 := [((am 0), .inr (8, [.int 1, .ref (am 1), .ref (am 2), .ref (am 3), .ref (am 4), .ref (am 5), .long bu, .long he, .ref (am 6), .ref (am 7)])), ((am 1), .inl (ct 1, 334, .inr (.inl S)))]) t_M i_M t_M_ok n_M rfl hx hb hts hown hE hP hD hS rfl (by decide) x_936 rfl (by decide +kernel) (rfl) rfl (Nat.le_of_ble_eq_true rfl) rfl d_M_step_51 (fun H locs hP hD hS => ?_)
    refine lv_iconst (v := 0) hx hb d_M_step_54 (by decide) ?_
    refine lv_istore_n (lv' := [(3, .int 0), (0, .ref (am 0)), (1, .int tI), (2, .int mI)]) hx hb d_M_step_55 rfl hl (by decide) rfl (fun ls hl => ?_)
    refine lv_aload_n hx hb d_M_step_56 rfl (lv_at hl 1 rfl) ?_
    refine q_get 0 0 i_M rfl hx hb hts hown hE hP rfl (by decide) x_936 rfl d_M_step_57 ?_
    refine lv_if_ne (tgt := 87) hx hb d_M_step_60 (by decide) (fun _ => ?_) (fun h => absurd h (by decide))
    refine lv_iload_n hx hb d_M_step_87 rfl (lv_at hl 0 rfl) ?_
    exact rW_i hx hb hr hlk hAe hS hP hD (Nat.le_of_ble_eq_true rfl) (Nat.le_of_ble_eq_true rfl) d_M_step_88 ⟨1, rfl, rfl, by unfold w_thr_step; first | exact (if_neg (fun z => h_10 z.1)).symm | exact (if_neg (fun z => h_22 z.2)).symm | exact ((if_pos ⟨h_10, h_22⟩).trans (if_pos (Int64.not_le.mp h_43))).symm⟩
  · refine lv_iload_n hx hb d_M_step_13 rfl (lv_at hl 2 rfl) ?_
    refine lv_i2l hx hb d_M_step_14 rfl ?_
    refine lv_lconst (v := 1) hx hb d_M_step_15 (by decide) ?_
    refine lv_ldc2 (v := 50) hx hb hown (hts _ (List.mem_cons_of_mem _ x_1017)) d_M_step_16 ?_
    refine cRS (As := [.long mI.toInt64, .long 1, .long 50]) (rest := [.ref (am 0)]) K_M_in x_978 hx hb hml hown hts hE hV hS (c_M_in l D ct st mI.toInt64 1 50) (fun k q h => by simp at h) rfl hl.1 rfl (Nat.le_of_ble_eq_true rfl) d_M_step_19 (Nat.le_of_ble_eq_true rfl) (Nat.le_of_ble_eq_true rfl) ⟨Nat.le_of_ble_eq_true rfl, Nat.le_of_ble_eq_true rfl⟩ ?_
    refine q_ifne_b (tgt := 29) hx hb d_M_step_22 (by decide) (fun h_22 => ?_) (fun h_22 => ?_)
    · refine lv_aload_n hx hb d_M_step_29 rfl (lv_at hl 0 rfl) ?_
      refine q_get 0 1 i_M rfl hx hb hts hown hE hP rfl (by decide) x_937 rfl d_M_step_30 ?_
      refine lv_bipush (v := 7) hx hb d_M_step_33 (by decide) ?_
      refine q_lald (k := 7) 1 hx hb hE hP rfl rfl (by omega) (by decide) d_M_step_35 ?_
      refine lv_iload_n hx hb d_M_step_36 rfl (lv_at hl 2 rfl) ?_
      refine lv_i2l hx hb d_M_step_37 rfl ?_
      refine lv_ladd hx hb d_M_step_38 ?_
      refine lv_ldc2 (v := 300) hx hb hown (hts _ (List.mem_cons_of_mem _ x_1018)) d_M_step_39 ?_
      refine W.lcmp hx hb d_M_step_42 ?_
      refine q_cmp_le (tgt := 50) hx hb d_M_step_43 (by decide) (fun h_43 => absurd ⟨h_10, h_22, h_43⟩ hbad) (fun h_43 => ?_)
      refine lv_iconst (v := 2) hx hb d_M_step_46 (by decide) ?_
      refine lv_goto (tgt := 51) hx hb d_M_step_47 (by decide) ?_
      refine q_put (ty := .int) 0 0 (ws1 := [((am 0), .inr (8, [.int 2, .ref (am 1), .ref (am 2), .ref (am 3), .ref (am 4), .ref (am 5), .long bu, .long he, .ref (am 6), .ref (am 7)])), ((am 1), .inl (ct 1, 334, .inr (.inl S)))]) t_M i_M t_M_ok n_M rfl hx hb hts hown hE hP hD hS rfl (by decide) x_936 rfl (by decide +kernel) (rfl) rfl (Nat.le_of_ble_eq_true rfl) rfl d_M_step_51 (fun H locs hP hD hS => ?_)
      refine lv_iconst (v := 0) hx hb d_M_step_54 (by decide) ?_
      refine lv_istore_n (lv' := [(3, .int 0), (0, .ref (am 0)), (1, .int tI), (2, .int mI)]) hx hb d_M_step_55 rfl hl (by decide) rfl (fun ls hl => ?_)
      refine lv_aload_n hx hb d_M_step_56 rfl (lv_at hl 1 rfl) ?_
      refine q_get 0 0 i_M rfl hx hb hts hown hE hP rfl (by decide) x_936 rfl d_M_step_57 ?_
      refine lv_if_ne (tgt := 87) hx hb d_M_step_60 (by decide) (fun _ => ?_) (fun h => absurd h (by decide))
      refine lv_iload_n hx hb d_M_step_87 rfl (lv_at hl 0 rfl) ?_
      exact rW_i hx hb hr hlk hAe hS hP hD (Nat.le_of_ble_eq_true rfl) (Nat.le_of_ble_eq_true rfl) d_M_step_88 ⟨2, rfl, rfl, by unfold w_thr_step; first | exact (if_neg (fun z => h_10 z.1)).symm | exact (if_neg (fun z => h_22 z.2)).symm | exact ((if_pos ⟨h_10, h_22⟩).trans (if_pos (Int64.not_le.mp h_43))).symm⟩
    · refine lv_iconst (v := 1) hx hb d_M_step_25 (by decide) ?_
      refine lv_goto (tgt := 51) hx hb d_M_step_26 (by decide) ?_
      refine q_put (ty := .int) 0 0 (ws1 := [((am 0), .inr (8, [.int 1, .ref (am 1), .ref (am 2), .ref (am 3), .ref (am 4), .ref (am 5), .long bu, .long he, .ref (am 6), .ref (am 7)])), ((am 1), .inl (ct 1, 334, .inr (.inl S)))]) t_M i_M t_M_ok n_M rfl hx hb hts hown hE hP hD hS rfl (by decide) x_936 rfl (by decide +kernel) (rfl) rfl (Nat.le_of_ble_eq_true rfl) rfl d_M_step_51 (fun H locs hP hD hS => ?_)
      refine lv_iconst (v := 0) hx hb d_M_step_54 (by decide) ?_
      refine lv_istore_n (lv' := [(3, .int 0), (0, .ref (am 0)), (1, .int tI), (2, .int mI)]) hx hb d_M_step_55 rfl hl (by decide) rfl (fun ls hl => ?_)
      refine lv_aload_n hx hb d_M_step_56 rfl (lv_at hl 1 rfl) ?_
      refine q_get 0 0 i_M rfl hx hb hts hown hE hP rfl (by decide) x_936 rfl d_M_step_57 ?_
      refine lv_if_ne (tgt := 87) hx hb d_M_step_60 (by decide) (fun _ => ?_) (fun h => absurd h (by decide))
      refine lv_iload_n hx hb d_M_step_87 rfl (lv_at hl 0 rfl) ?_
      exact rW_i hx hb hr hlk hAe hS hP hD (Nat.le_of_ble_eq_true rfl) (Nat.le_of_ble_eq_true rfl) d_M_step_88 ⟨1, rfl, rfl, by unfold w_thr_step; first | exact (if_neg (fun z => h_10 z.1)).symm | exact (if_neg (fun z => h_22 z.2)).symm | exact ((if_pos ⟨h_10, h_22⟩).trans (if_pos (Int64.not_le.mp h_43))).symm⟩
set_option maxHeartbeats 4000000 in
set_option maxRecDepth 100000 in
theorem c_M_shapes (l : Launch) (D : va_G) (ct : Nat → ClassId) (st : Nat → Nat) (am : Nat → Nat) (th : Int32) (bu : Int64) (he : Int64) (S : Nat → Int64) (n1 : Nat) (l1 : Nat) (r1 : Nat) (hn1 : n1 ≤ 32) (hl1 : l1 ≤ 1) (hr1 : r1 ≤ 1) (sz : Nat) : Met l y_M_shapes (wsy y_M_shapes b_M_shapes 5 (none)) (rmW 0 0 0 0) (PcW D ct st [.ref (am 0), .int (nI n1), .int (nI l1), .int (nI r1)] [((am 0), .inr (8, [.int th, .ref (am 1), .ref (am 2), .ref (am 3), .ref (am 4), .ref (am 5), .long bu, .long he, .ref (am 6), .ref (am 7)])), ((am 1), .inl (ct 1, 334, .inr (.inl S)))] sz) (QcW D [((am 0), .inr (8, [.int th, .ref (am 1), .ref (am 2), .ref (am 3), .ref (am 4), .ref (am 5), .long bu, .long he, .ref (am 6), .ref (am 7)])), ((am 1), .inl (ct 1, 334, .inr (.inl S)))] sz (fun v W1 => ∃ (s1 : Nat → Int64), v = none ∧ W1 = [((am 0), .inr (8, [.int th, .ref (am 1), .ref (am 2), .ref (am 3), .ref (am 4), .ref (am 5), .long bu, .long he, .ref (am 6), .ref (am 7)])), ((am 1), .inl (ct 1, 334, .inr (.inl s1)))] ∧ (s1 4 = lN n1 ∧ s1 5 = lN l1 ∧ s1 6 = lN r1 ∧ s1 7 = 0 ∧ (∀ j, j < 32 → s1 (8 + j) = 1000 ∧ s1 (40 + j) = 0 ∧ s1 (72 + j) = 2000 ∧ s1 (104 + j) = 0 ∧ s1 (146 + j) = 0 ∧ s1 (178 + j) = 0) ∧ (∀ j, j < 6 → s1 (136 + j) = 0) ∧ (s1 142 = 1000 * lN n1 ∧ s1 143 = 0 ∧ s1 144 = 2000 * lN n1 ∧ s1 145 = 0) ∧ ∀ j, j < 4 ∨ 210 ≤ j → s1 j = S j))) 0 0 (va_A [((am 0), .inr (8, [.int th, .ref (am 1), .ref (am 2), .ref (am 3), .ref (am 4), .ref (am 5), .long bu, .long he, .ref (am 6), .ref (am 7)])), ((am 1), .inl (ct 1, 334, .inr (.inl S)))] sz) := by
  refine enterW (by decide) (Nat.le_of_ble_eq_true rfl) ?_
  intro p e s m args below meth c ls A hx hb hr hml hown hts hlk hin hsz hAe hP hD hA hE hV hS hl
  have hl : lv_has ls 5 [(0, .ref (am 0)), (1, .int (nI n1)), (2, .int (nI l1)), (3, .int (nI r1))] := hl
  refine lv_aload_n hx hb d_M_shapes_0 rfl (lv_at hl 0 rfl) ?_
  refine q_get 0 1 i_M rfl hx hb hts hown hE hP rfl (by decide) x_937 rfl d_M_shapes_1 ?_
  refine lv_iconst (v := 4) hx hb d_M_shapes_4 (by decide) ?_
  refine lv_iload_n hx hb d_M_shapes_5 rfl (lv_at hl 1 rfl) ?_
  refine lv_i2l (v := lN n1) hx hb d_M_shapes_6 (nI_l (by omega)) ?_
  obtain ⟨s_1, es_1⟩ : ∃ g9 : Nat → Int64, g9 = vp_updL S 4 (lN n1) := ⟨_, rfl⟩
  refine q_last (k := 4) 1 (ws1 := [((am 0), .inr (8, [.int th, .ref (am 1), .ref (am 2), .ref (am 3), .ref (am 4), .ref (am 5), .long bu, .long he, .ref (am 6), .ref (am 7)])), ((am 1), .inl (ct 1, 334, .inr (.inl s_1)))]) es_1 hx hb hE hP hD hS rfl rfl (by omega) (by decide) rfl d_M_shapes_7 (fun H locs hP hD hS => ?_)
  refine lv_aload_n hx hb d_M_shapes_8 rfl (lv_at hl 0 rfl) ?_
  refine q_get 0 1 i_M rfl hx hb hts hown hE hP rfl (by decide) x_937 rfl d_M_shapes_9 ?_
  refine lv_iconst (v := 5) hx hb d_M_shapes_12 (by decide) ?_
  refine lv_iload_n hx hb d_M_shapes_13 rfl (lv_at hl 2 rfl) ?_
  refine lv_i2l (v := lN l1) hx hb d_M_shapes_14 (nI_l (by omega)) ?_
  obtain ⟨s_2, es_2⟩ : ∃ g9 : Nat → Int64, g9 = vp_updL s_1 5 (lN l1) := ⟨_, rfl⟩
  refine q_last (k := 5) 1 (ws1 := [((am 0), .inr (8, [.int th, .ref (am 1), .ref (am 2), .ref (am 3), .ref (am 4), .ref (am 5), .long bu, .long he, .ref (am 6), .ref (am 7)])), ((am 1), .inl (ct 1, 334, .inr (.inl s_2)))]) es_2 hx hb hE hP hD hS rfl rfl (by omega) (by decide) rfl d_M_shapes_15 (fun H locs hP hD hS => ?_)
  refine lv_aload_n hx hb d_M_shapes_16 rfl (lv_at hl 0 rfl) ?_
  refine q_get 0 1 i_M rfl hx hb hts hown hE hP rfl (by decide) x_937 rfl d_M_shapes_17 ?_
  refine lv_bipush (v := 6) hx hb d_M_shapes_20 (by decide) ?_
  refine lv_iload_n hx hb d_M_shapes_22 rfl (lv_at hl 3 rfl) ?_
  refine lv_i2l (v := lN r1) hx hb d_M_shapes_23 (nI_l (by omega)) ?_
  obtain ⟨s_3, es_3⟩ : ∃ g9 : Nat → Int64, g9 = vp_updL s_2 6 (lN r1) := ⟨_, rfl⟩
  refine q_last (k := 6) 1 (ws1 := [((am 0), .inr (8, [.int th, .ref (am 1), .ref (am 2), .ref (am 3), .ref (am 4), .ref (am 5), .long bu, .long he, .ref (am 6), .ref (am 7)])), ((am 1), .inl (ct 1, 334, .inr (.inl s_3)))]) es_3 hx hb hE hP hD hS rfl rfl (by omega) (by decide) rfl d_M_shapes_24 (fun H locs hP hD hS => ?_)
  refine lv_aload_n hx hb d_M_shapes_25 rfl (lv_at hl 0 rfl) ?_
  refine q_get 0 1 i_M rfl hx hb hts hown hE hP rfl (by decide) x_937 rfl d_M_shapes_26 ?_
  refine lv_bipush (v := 7) hx hb d_M_shapes_29 (by decide) ?_
  refine lv_lconst (v := 0) hx hb d_M_shapes_31 (by decide) ?_
  obtain ⟨s_4, es_4⟩ : ∃ g9 : Nat → Int64, g9 = vp_updL s_3 7 0 := ⟨_, rfl⟩
  refine q_last (k := 7) 1 (ws1 := [((am 0), .inr (8, [.int th, .ref (am 1), .ref (am 2), .ref (am 3), .ref (am 4), .ref (am 5), .long bu, .long he, .ref (am 6), .ref (am 7)])), ((am 1), .inl (ct 1, 334, .inr (.inl s_4)))]) es_4 hx hb hE hP hD hS rfl rfl (by omega) (by decide) rfl d_M_shapes_32 (fun H locs hP hD hS => ?_)
  refine lv_iconst (v := 0) hx hb d_M_shapes_33 (by decide) ?_
  refine lv_istore (lv' := [(4, .int 0), (0, .ref (am 0)), (1, .int (nI n1)), (2, .int (nI l1)), (3, .int (nI r1))]) hx hb d_M_shapes_34 hl (by decide) rfl (fun ls hl => ?_)
  have loop_36 : ∀ (n9 : Nat) (i : Nat) (T : Nat → Int64) (hi : i ≤ 32) (hA : ∀ j, j < i → T (8 + j) = 1000 ∧ T (40 + j) = 0 ∧ T (72 + j) = 2000 ∧ T (104 + j) = 0 ∧ T (146 + j) = 0 ∧ T (178 + j) = 0) (hB : ∀ j, (j < 8 ∨ (136 ≤ j ∧ j < 146) ∨ 210 ≤ j) → T j = s_4 j) (hn9 : 32 - i < n9) (H : Heap) (locs : List Loc) (ls : Array Slot), va_P D classes [((am 0), .inr (8, [.int th, .ref (am 1), .ref (am 2), .ref (am 3), .ref (am 4), .ref (am 5), .long bu, .long he, .ref (am 6), .ref (am 7)])), ((am 1), .inl (ct 1, 334, .inr (.inl T)))] H → va_D A [((am 0), .inr (8, [.int th, .ref (am 1), .ref (am 2), .ref (am 3), .ref (am 4), .ref (am 5), .long bu, .long he, .ref (am 6), .ref (am 7)])), ((am 1), .inl (ct 1, 334, .inr (.inl T)))] → va_S A s.heap H locs → lv_has ls 5 [(0, .ref (am 0)), (1, .int (nI n1)), (2, .int (nI l1)), (3, .int (nI r1)), (4, .int (nI i))] → W p l e (rmW 0 0 0 0) s m args below meth c H locs (0) (0) (MQ below (QcW D [((am 0), .inr (8, [.int th, .ref (am 1), .ref (am 2), .ref (am 3), .ref (am 4), .ref (am 5), .long bu, .long he, .ref (am 6), .ref (am 7)])), ((am 1), .inl (ct 1, 334, .inr (.inl S)))] sz (fun v W1 => ∃ (s1 : Nat → Int64), v = none ∧ W1 = [((am 0), .inr (8, [.int th, .ref (am 1), .ref (am 2), .ref (am 3), .ref (am 4), .ref (am 5), .long bu, .long he, .ref (am 6), .ref (am 7)])), ((am 1), .inl (ct 1, 334, .inr (.inl s1)))] ∧ (s1 4 = lN n1 ∧ s1 5 = lN l1 ∧ s1 6 = lN r1 ∧ s1 7 = 0 ∧ (∀ j, j < 32 → s1 (8 + j) = 1000 ∧ s1 (40 + j) = 0 ∧ s1 (72 + j) = 2000 ∧ s1 (104 + j) = 0 ∧ s1 (146 + j) = 0 ∧ s1 (178 + j) = 0) ∧ (∀ j, j < 6 → s1 (136 + j) = 0) ∧ (s1 142 = 1000 * lN n1 ∧ s1 143 = 0 ∧ s1 144 = 2000 * lN n1 ∧ s1 145 = 0) ∧ ∀ j, j < 4 ∨ 210 ≤ j → s1 j = S j))) args s 0 0 A) (F0 m 36 ls []) := by
    intro n9
    induction n9 with
    | zero => intro i T hi hA hB hn9 H locs ls hP hD hS hl; exact absurd hn9 (Nat.not_lt_zero _)
    | succ n9 ih_36 =>
      intro i T hi hA hB hn9 H locs ls hP hD hS hl
      refine lv_iload hx hb d_M_shapes_36 (lv_at hl 4 rfl) ?_
      refine lv_bipush (v := 32) hx hb d_M_shapes_38 (by decide) ?_
      refine q_icmp_ge_n (a := i) (b := 32) (tgt := 121) hx hb d_M_shapes_40 (by decide) rfl rfl (by omega) (by omega) (fun h_40 => ?_) (fun h_40 => ?_)
      · refine lv_iconst (v := 0) hx hb d_M_shapes_121 (by decide) ?_
        refine lv_istore (lv' := [(4, .int 0), (0, .ref (am 0)), (1, .int (nI n1)), (2, .int (nI l1)), (3, .int (nI r1))]) hx hb d_M_shapes_122 hl (by decide) rfl (fun ls hl => ?_)
        have loop_124 : ∀ (n9 : Nat) (i2 : Nat) (T2 : Nat → Int64) (hi2 : i2 ≤ 6) (hA2 : ∀ j, j < i2 → T2 (136 + j) = 0) (hB2 : ∀ j, (j < 136 ∨ 142 ≤ j) → T2 j = T j) (hn9 : 6 - i2 < n9) (H : Heap) (locs : List Loc) (ls : Array Slot), va_P D classes [((am 0), .inr (8, [.int th, .ref (am 1), .ref (am 2), .ref (am 3), .ref (am 4), .ref (am 5), .long bu, .long he, .ref (am 6), .ref (am 7)])), ((am 1), .inl (ct 1, 334, .inr (.inl T2)))] H → va_D A [((am 0), .inr (8, [.int th, .ref (am 1), .ref (am 2), .ref (am 3), .ref (am 4), .ref (am 5), .long bu, .long he, .ref (am 6), .ref (am 7)])), ((am 1), .inl (ct 1, 334, .inr (.inl T2)))] → va_S A s.heap H locs → lv_has ls 5 [(0, .ref (am 0)), (1, .int (nI n1)), (2, .int (nI l1)), (3, .int (nI r1)), (4, .int (nI i2))] → W p l e (rmW 0 0 0 0) s m args below meth c H locs (0) (0) (MQ below (QcW D [((am 0), .inr (8, [.int th, .ref (am 1), .ref (am 2), .ref (am 3), .ref (am 4), .ref (am 5), .long bu, .long he, .ref (am 6), .ref (am 7)])), ((am 1), .inl (ct 1, 334, .inr (.inl S)))] sz (fun v W1 => ∃ (s1 : Nat → Int64), v = none ∧ W1 = [((am 0), .inr (8, [.int th, .ref (am 1), .ref (am 2), .ref (am 3), .ref (am 4), .ref (am 5), .long bu, .long he, .ref (am 6), .ref (am 7)])), ((am 1), .inl (ct 1, 334, .inr (.inl s1)))] ∧ (s1 4 = lN n1 ∧ s1 5 = lN l1 ∧ s1 6 = lN r1 ∧ s1 7 = 0 ∧ (∀ j, j < 32 → s1 (8 + j) = 1000 ∧ s1 (40 + j) = 0 ∧ s1 (72 + j) = 2000 ∧ s1 (104 + j) = 0 ∧ s1 (146 + j) = 0 ∧ s1 (178 + j) = 0) ∧ (∀ j, j < 6 → s1 (136 + j) = 0) ∧ (s1 142 = 1000 * lN n1 ∧ s1 143 = 0 ∧ s1 144 = 2000 * lN n1 ∧ s1 145 = 0) ∧ ∀ j, j < 4 ∨ 210 ≤ j → s1 j = S j))) args s 0 0 A) (F0 m 124 ls []) := by
          intro n9
          induction n9 with
          | zero => intro i2 T2 hi2 hA2 hB2 hn9 H locs ls hP hD hS hl; exact absurd hn9 (Nat.not_lt_zero _)
          | succ n9 ih_124 =>
            intro i2 T2 hi2 hA2 hB2 hn9 H locs ls hP hD hS hl
            refine lv_iload hx hb d_M_shapes_124 (lv_at hl 4 rfl) ?_
            refine lv_bipush (v := 6) hx hb d_M_shapes_126 (by decide) ?_
            refine q_icmp_ge_n (a := i2) (b := 6) (tgt := 149) hx hb d_M_shapes_128 (by decide) rfl rfl (by omega) (by omega) (fun h_128 => ?_) (fun h_128 => ?_)
            · refine lv_aload_n hx hb d_M_shapes_149 rfl (lv_at hl 0 rfl) ?_
              refine q_get 0 1 i_M rfl hx hb hts hown hE hP rfl (by decide) x_937 rfl d_M_shapes_150 ?_
              refine lv_sipush (v := 142) hx hb d_M_shapes_153 (by decide) ?_
              refine lv_ldc2 (v := 1000) hx hb hown (hts _ (List.mem_cons_of_mem _ x_934)) d_M_shapes_156 ?_
              refine lv_iload_n hx hb d_M_shapes_159 rfl (lv_at hl 1 rfl) ?_
              refine lv_i2l (v := lN n1) hx hb d_M_shapes_160 (nI_l (by omega)) ?_
              refine lv_lmul hx hb d_M_shapes_161 ?_
              obtain ⟨s_5, es_5⟩ : ∃ g9 : Nat → Int64, g9 = vp_updL T2 142 (1000 * (lN n1)) := ⟨_, rfl⟩
              refine q_last (k := 142) 1 (ws1 := [((am 0), .inr (8, [.int th, .ref (am 1), .ref (am 2), .ref (am 3), .ref (am 4), .ref (am 5), .long bu, .long he, .ref (am 6), .ref (am 7)])), ((am 1), .inl (ct 1, 334, .inr (.inl s_5)))]) es_5 hx hb hE hP hD hS rfl rfl (by omega) (by decide) rfl d_M_shapes_162 (fun H locs hP hD hS => ?_)
              refine lv_aload_n hx hb d_M_shapes_163 rfl (lv_at hl 0 rfl) ?_
              refine q_get 0 1 i_M rfl hx hb hts hown hE hP rfl (by decide) x_937 rfl d_M_shapes_164 ?_
              refine lv_sipush (v := 143) hx hb d_M_shapes_167 (by decide) ?_
              refine lv_lconst (v := 0) hx hb d_M_shapes_170 (by decide) ?_
              obtain ⟨s_6, es_6⟩ : ∃ g9 : Nat → Int64, g9 = vp_updL s_5 143 0 := ⟨_, rfl⟩
              refine q_last (k := 143) 1 (ws1 := [((am 0), .inr (8, [.int th, .ref (am 1), .ref (am 2), .ref (am 3), .ref (am 4), .ref (am 5), .long bu, .long he, .ref (am 6), .ref (am 7)])), ((am 1), .inl (ct 1, 334, .inr (.inl s_6)))]) es_6 hx hb hE hP hD hS rfl rfl (by omega) (by decide) rfl d_M_shapes_171 (fun H locs hP hD hS => ?_)
              refine lv_aload_n hx hb d_M_shapes_172 rfl (lv_at hl 0 rfl) ?_
              refine q_get 0 1 i_M rfl hx hb hts hown hE hP rfl (by decide) x_937 rfl d_M_shapes_173 ?_
              refine lv_sipush (v := 144) hx hb d_M_shapes_176 (by decide) ?_
              refine lv_ldc2 (v := 2000) hx hb hown (hts _ (List.mem_cons_of_mem _ x_935)) d_M_shapes_179 ?_
              refine lv_iload_n hx hb d_M_shapes_182 rfl (lv_at hl 1 rfl) ?_
              refine lv_i2l (v := lN n1) hx hb d_M_shapes_183 (nI_l (by omega)) ?_
              refine lv_lmul hx hb d_M_shapes_184 ?_
              obtain ⟨s_7, es_7⟩ : ∃ g9 : Nat → Int64, g9 = vp_updL s_6 144 (2000 * (lN n1)) := ⟨_, rfl⟩
              refine q_last (k := 144) 1 (ws1 := [((am 0), .inr (8, [.int th, .ref (am 1), .ref (am 2), .ref (am 3), .ref (am 4), .ref (am 5), .long bu, .long he, .ref (am 6), .ref (am 7)])), ((am 1), .inl (ct 1, 334, .inr (.inl s_7)))]) es_7 hx hb hE hP hD hS rfl rfl (by omega) (by decide) rfl d_M_shapes_185 (fun H locs hP hD hS => ?_)
              refine lv_aload_n hx hb d_M_shapes_186 rfl (lv_at hl 0 rfl) ?_
              refine q_get 0 1 i_M rfl hx hb hts hown hE hP rfl (by decide) x_937 rfl d_M_shapes_187 ?_
              refine lv_sipush (v := 145) hx hb d_M_shapes_190 (by decide) ?_
              refine lv_lconst (v := 0) hx hb d_M_shapes_193 (by decide) ?_
              obtain ⟨s_8, es_8⟩ : ∃ g9 : Nat → Int64, g9 = vp_updL s_7 145 0 := ⟨_, rfl⟩
              refine q_last (k := 145) 1 (ws1 := [((am 0), .inr (8, [.int th, .ref (am 1), .ref (am 2), .ref (am 3), .ref (am 4), .ref (am 5), .long bu, .long he, .ref (am 6), .ref (am 7)])), ((am 1), .inl (ct 1, 334, .inr (.inl s_8)))]) es_8 hx hb hE hP hD hS rfl rfl (by omega) (by decide) rfl d_M_shapes_194 (fun H locs hP hD hS => ?_)
              exact rW_v hx hb hr hlk hAe hS hP hD (Nat.le_of_ble_eq_true rfl) (Nat.le_of_ble_eq_true rfl) d_M_shapes_195 ⟨s_8, rfl, rfl, ⟨by simp (disch := omega) only [es_8, es_7, es_6, es_5, es_4, es_3, es_2, es_1, hB, hB2, pk_uLn, pk_uLs, pk_us, pk_un], by simp (disch := omega) only [es_8, es_7, es_6, es_5, es_4, es_3, es_2, es_1, hB, hB2, pk_uLn, pk_uLs, pk_us, pk_un], by simp (disch := omega) only [es_8, es_7, es_6, es_5, es_4, es_3, es_2, es_1, hB, hB2, pk_uLn, pk_uLs, pk_us, pk_un], by simp (disch := omega) only [es_8, es_7, es_6, es_5, es_4, es_3, es_2, es_1, hB, hB2, pk_uLn, pk_uLs, pk_us, pk_un], fun j hj => by have := hA j (by omega); simp (disch := omega) only [es_8, es_7, es_6, es_5, es_4, es_3, es_2, es_1, hB, hB2, pk_uLn, pk_uLs, pk_us, pk_un]; exact this, fun j hj => by have := hA2 j (by omega); simp (disch := omega) only [es_8, es_7, es_6, es_5, es_4, es_3, es_2, es_1, hB, hB2, pk_uLn, pk_uLs, pk_us, pk_un]; exact this, ⟨by simp (disch := omega) only [es_8, es_7, es_6, es_5, es_4, es_3, es_2, es_1, hB, hB2, pk_uLn, pk_uLs, pk_us, pk_un], by simp (disch := omega) only [es_8, es_7, es_6, es_5, es_4, es_3, es_2, es_1, hB, hB2, pk_uLn, pk_uLs, pk_us, pk_un], by simp (disch := omega) only [es_8, es_7, es_6, es_5, es_4, es_3, es_2, es_1, hB, hB2, pk_uLn, pk_uLs, pk_us, pk_un], by simp (disch := omega) only [es_8, es_7, es_6, es_5, es_4, es_3, es_2, es_1, hB, hB2, pk_uLn, pk_uLs, pk_us, pk_un]⟩, fun j hj => by simp (disch := omega) only [es_8, es_7, es_6, es_5, es_4, es_3, es_2, es_1, hB, hB2, pk_uLn, pk_uLs, pk_us, pk_un]⟩⟩
            · refine lv_aload_n hx hb d_M_shapes_131 rfl (lv_at hl 0 rfl) ?_
              refine q_get 0 1 i_M rfl hx hb hts hown hE hP rfl (by decide) x_937 rfl d_M_shapes_132 ?_
              refine lv_sipush (v := 136) hx hb d_M_shapes_135 (by decide) ?_
              refine lv_iload hx hb d_M_shapes_138 (lv_at hl 4 rfl) ?_
              refine q_iadd (v := nI (136 + i2)) hx hb d_M_shapes_140 (nI_add 136 i2) ?_
              refine lv_lconst (v := 0) hx hb d_M_shapes_141 (by decide) ?_
              obtain ⟨s_9, es_9⟩ : ∃ g9 : Nat → Int64, g9 = vp_updL T2 (136 + i2) 0 := ⟨_, rfl⟩
              refine q_last (k := 136 + i2) 1 (ws1 := [((am 0), .inr (8, [.int th, .ref (am 1), .ref (am 2), .ref (am 3), .ref (am 4), .ref (am 5), .long bu, .long he, .ref (am 6), .ref (am 7)])), ((am 1), .inl (ct 1, 334, .inr (.inl s_9)))]) es_9 hx hb hE hP hD hS rfl rfl (by omega) (by decide) rfl d_M_shapes_142 (fun H locs hP hD hS => ?_)
              refine lv_iinc (v := (nI (i2 + 1))) (lv' := [(4, .int (nI (i2 + 1))), (0, .ref (am 0)), (1, .int (nI n1)), (2, .int (nI l1)), (3, .int (nI r1))]) hx hb d_M_shapes_143 hl (k := 4) rfl (nI_1 _) (by decide) rfl (fun ls hl => ?_)
              refine lv_goto (tgt := 124) hx hb d_M_shapes_146 (by decide) ?_
              exact ih_124 (i2 + 1) s_9 (by omega) (fun j hj => by
                                        rcases Nat.lt_succ_iff_lt_or_eq.mp hj with q | rfl
                                        · simp (disch := omega) only [es_9, pk_uLn, pk_uLs]; exact hA2 j q
                                        · simp (disch := omega) only [es_9, pk_uLn, pk_uLs]) (fun j hj => by simp (disch := omega) only [es_9, pk_uLn, pk_uLs]; exact hB2 j hj) (by omega) _ _ _ hP hD hS (lv_sub hl [1, 2, 3, 4, 0] rfl)
        exact loop_124 _ 0 T (by omega) (fun j hj => absurd hj (Nat.not_lt_zero _)) (fun _ _ => rfl) (Nat.lt_succ_self _) _ _ _ hP hD hS (lv_sub hl [1, 2, 3, 4, 0] rfl)
      · refine lv_aload_n hx hb d_M_shapes_43 rfl (lv_at hl 0 rfl) ?_
        refine q_get 0 1 i_M rfl hx hb hts hown hE hP rfl (by decide) x_937 rfl d_M_shapes_44 ?_
        refine lv_bipush (v := 8) hx hb d_M_shapes_47 (by decide) ?_
        refine lv_iload hx hb d_M_shapes_49 (lv_at hl 4 rfl) ?_
        refine q_iadd (v := nI (8 + i)) hx hb d_M_shapes_51 (nI_add 8 i) ?_
        refine lv_ldc2 (v := 1000) hx hb hown (hts _ (List.mem_cons_of_mem _ x_934)) d_M_shapes_52 ?_
        obtain ⟨s_10, es_10⟩ : ∃ g9 : Nat → Int64, g9 = vp_updL T (8 + i) 1000 := ⟨_, rfl⟩
        refine q_last (k := 8 + i) 1 (ws1 := [((am 0), .inr (8, [.int th, .ref (am 1), .ref (am 2), .ref (am 3), .ref (am 4), .ref (am 5), .long bu, .long he, .ref (am 6), .ref (am 7)])), ((am 1), .inl (ct 1, 334, .inr (.inl s_10)))]) es_10 hx hb hE hP hD hS rfl rfl (by omega) (by decide) rfl d_M_shapes_55 (fun H locs hP hD hS => ?_)
        refine lv_aload_n hx hb d_M_shapes_56 rfl (lv_at hl 0 rfl) ?_
        refine q_get 0 1 i_M rfl hx hb hts hown hE hP rfl (by decide) x_937 rfl d_M_shapes_57 ?_
        refine lv_bipush (v := 40) hx hb d_M_shapes_60 (by decide) ?_
        refine lv_iload hx hb d_M_shapes_62 (lv_at hl 4 rfl) ?_
        refine q_iadd (v := nI (40 + i)) hx hb d_M_shapes_64 (nI_add 40 i) ?_
        refine lv_lconst (v := 0) hx hb d_M_shapes_65 (by decide) ?_
        obtain ⟨s_11, es_11⟩ : ∃ g9 : Nat → Int64, g9 = vp_updL s_10 (40 + i) 0 := ⟨_, rfl⟩
        refine q_last (k := 40 + i) 1 (ws1 := [((am 0), .inr (8, [.int th, .ref (am 1), .ref (am 2), .ref (am 3), .ref (am 4), .ref (am 5), .long bu, .long he, .ref (am 6), .ref (am 7)])), ((am 1), .inl (ct 1, 334, .inr (.inl s_11)))]) es_11 hx hb hE hP hD hS rfl rfl (by omega) (by decide) rfl d_M_shapes_66 (fun H locs hP hD hS => ?_)
        refine lv_aload_n hx hb d_M_shapes_67 rfl (lv_at hl 0 rfl) ?_
        refine q_get 0 1 i_M rfl hx hb hts hown hE hP rfl (by decide) x_937 rfl d_M_shapes_68 ?_
        refine lv_bipush (v := 72) hx hb d_M_shapes_71 (by decide) ?_
        refine lv_iload hx hb d_M_shapes_73 (lv_at hl 4 rfl) ?_
        refine q_iadd (v := nI (72 + i)) hx hb d_M_shapes_75 (nI_add 72 i) ?_
        refine lv_ldc2 (v := 2000) hx hb hown (hts _ (List.mem_cons_of_mem _ x_935)) d_M_shapes_76 ?_
        obtain ⟨s_12, es_12⟩ : ∃ g9 : Nat → Int64, g9 = vp_updL s_11 (72 + i) 2000 := ⟨_, rfl⟩
        refine q_last (k := 72 + i) 1 (ws1 := [((am 0), .inr (8, [.int th, .ref (am 1), .ref (am 2), .ref (am 3), .ref (am 4), .ref (am 5), .long bu, .long he, .ref (am 6), .ref (am 7)])), ((am 1), .inl (ct 1, 334, .inr (.inl s_12)))]) es_12 hx hb hE hP hD hS rfl rfl (by omega) (by decide) rfl d_M_shapes_79 (fun H locs hP hD hS => ?_)
        refine lv_aload_n hx hb d_M_shapes_80 rfl (lv_at hl 0 rfl) ?_
        refine q_get 0 1 i_M rfl hx hb hts hown hE hP rfl (by decide) x_937 rfl d_M_shapes_81 ?_
        refine lv_bipush (v := 104) hx hb d_M_shapes_84 (by decide) ?_
        refine lv_iload hx hb d_M_shapes_86 (lv_at hl 4 rfl) ?_
        refine q_iadd (v := nI (104 + i)) hx hb d_M_shapes_88 (nI_add 104 i) ?_
        refine lv_lconst (v := 0) hx hb d_M_shapes_89 (by decide) ?_
        obtain ⟨s_13, es_13⟩ : ∃ g9 : Nat → Int64, g9 = vp_updL s_12 (104 + i) 0 := ⟨_, rfl⟩
        refine q_last (k := 104 + i) 1 (ws1 := [((am 0), .inr (8, [.int th, .ref (am 1), .ref (am 2), .ref (am 3), .ref (am 4), .ref (am 5), .long bu, .long he, .ref (am 6), .ref (am 7)])), ((am 1), .inl (ct 1, 334, .inr (.inl s_13)))]) es_13 hx hb hE hP hD hS rfl rfl (by omega) (by decide) rfl d_M_shapes_90 (fun H locs hP hD hS => ?_)
        refine lv_aload_n hx hb d_M_shapes_91 rfl (lv_at hl 0 rfl) ?_
        refine q_get 0 1 i_M rfl hx hb hts hown hE hP rfl (by decide) x_937 rfl d_M_shapes_92 ?_
        refine lv_sipush (v := 146) hx hb d_M_shapes_95 (by decide) ?_
        refine lv_iload hx hb d_M_shapes_98 (lv_at hl 4 rfl) ?_
        refine q_iadd (v := nI (146 + i)) hx hb d_M_shapes_100 (nI_add 146 i) ?_
        refine lv_lconst (v := 0) hx hb d_M_shapes_101 (by decide) ?_
        obtain ⟨s_14, es_14⟩ : ∃ g9 : Nat → Int64, g9 = vp_updL s_13 (146 + i) 0 := ⟨_, rfl⟩
        refine q_last (k := 146 + i) 1 (ws1 := [((am 0), .inr (8, [.int th, .ref (am 1), .ref (am 2), .ref (am 3), .ref (am 4), .ref (am 5), .long bu, .long he, .ref (am 6), .ref (am 7)])), ((am 1), .inl (ct 1, 334, .inr (.inl s_14)))]) es_14 hx hb hE hP hD hS rfl rfl (by omega) (by decide) rfl d_M_shapes_102 (fun H locs hP hD hS => ?_)
        refine lv_aload_n hx hb d_M_shapes_103 rfl (lv_at hl 0 rfl) ?_
        refine q_get 0 1 i_M rfl hx hb hts hown hE hP rfl (by decide) x_937 rfl d_M_shapes_104 ?_
        refine lv_sipush (v := 178) hx hb d_M_shapes_107 (by decide) ?_
        refine lv_iload hx hb d_M_shapes_110 (lv_at hl 4 rfl) ?_
        refine q_iadd (v := nI (178 + i)) hx hb d_M_shapes_112 (nI_add 178 i) ?_
        refine lv_lconst (v := 0) hx hb d_M_shapes_113 (by decide) ?_
        obtain ⟨s_15, es_15⟩ : ∃ g9 : Nat → Int64, g9 = vp_updL s_14 (178 + i) 0 := ⟨_, rfl⟩
        refine q_last (k := 178 + i) 1 (ws1 := [((am 0), .inr (8, [.int th, .ref (am 1), .ref (am 2), .ref (am 3), .ref (am 4), .ref (am 5), .long bu, .long he, .ref (am 6), .ref (am 7)])), ((am 1), .inl (ct 1, 334, .inr (.inl s_15)))]) es_15 hx hb hE hP hD hS rfl rfl (by omega) (by decide) rfl d_M_shapes_114 (fun H locs hP hD hS => ?_)
        refine lv_iinc (v := (nI (i + 1))) (lv' := [(4, .int (nI (i + 1))), (0, .ref (am 0)), (1, .int (nI n1)), (2, .int (nI l1)), (3, .int (nI r1))]) hx hb d_M_shapes_115 hl (k := 4) rfl (nI_1 _) (by decide) rfl (fun ls hl => ?_)
        refine lv_goto (tgt := 36) hx hb d_M_shapes_118 (by decide) ?_
        exact ih_36 (i + 1) s_15 (by omega) (fun j hj => by
                                        rcases Nat.lt_succ_iff_lt_or_eq.mp hj with q | rfl
                                        · have := hA j q
                                          simp (disch := omega) only [es_15, es_14, es_13, es_12, es_11, es_10, es_4, es_3, es_2, es_1, pk_uLn, pk_uLs, pk_us, pk_un]
                                          exact this
                                        · simp (disch := omega) only [es_15, es_14, es_13, es_12, es_11, es_10, es_4, es_3, es_2, es_1, pk_uLn, pk_uLs, pk_us, pk_un]; exact ⟨trivial, trivial, trivial, trivial, trivial, trivial⟩) (fun j hj => by simp (disch := omega) only [es_10, es_11, es_12, es_13, es_14, es_15, pk_uLn]; exact hB j hj) (by omega) _ _ _ hP hD hS (lv_sub hl [1, 2, 3, 4, 0] rfl)
  exact loop_36 _ 0 s_4 (by omega) (fun j hj => absurd hj (Nat.not_lt_zero _)) (fun _ _ => rfl) (Nat.lt_succ_self _) _ _ _ hP hD hS (lv_sub hl [1, 2, 3, 4, 0] rfl)
