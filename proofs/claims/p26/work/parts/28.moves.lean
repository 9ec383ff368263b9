theorem cmv_row {F T : RF} {i : Nat} {y : Int} (hT : ∀ a, a < 4 → T a i = F a i) (hy : y = if F 1 i + F 2 i < 0 then 0 else if 100000 < F 1 i + F 2 i then 100000 else F 1 i + F 2 i) (hb : ¬ mv_bey F i) : ∀ a, a < 5 → (if a = 1 then y else if a = 4 then T 1 i else T a i) = mvf F i a := by
  intro a ha
  rcases a5 ha with rfl | rfl | rfl | rfl | rfl
  · rw [mvf0, ← hT 0 (by decide)]; simp
  · rw [mvf1, ← hy]; simp
  · rw [mvf2, if_neg hb, ← hT 2 (by decide)]; simp
  · rw [mvf3, if_neg hb, ← hT 3 (by decide)]; simp
  · rw [mvf4, ← hT 1 (by decide)]; simp
theorem cmv_rowt {F T M : RF} {i k : Nat} {y : Int} (hT : ∀ a, a < 4 → T a i = F a i) (hy : y = if F 1 i + F 2 i < 0 then 0 else if 100000 < F 1 i + F 2 i then 100000 else F 1 i + F 2 i) (hb : mv_bey F i) (h : ∀ a, a < 5 → M a k = (if a = 1 then y else if a = 4 then T 1 i else T a i)) : ∀ a, a < 5 → trn M k a = mvf F i a := by
  intro a ha
  have h2 := h 2 (by decide)
  have h3 := h 3 (by decide)
  have h0 := h a ha
  rcases a5 ha with rfl | rfl | rfl | rfl | rfl
  · rw [mvf0, ← hT 0 (by decide)]; simp [trn, h0]
  · rw [mvf1, ← hy]; simp [trn, h0]
  · rw [mvf2, if_pos hb, ← hT 2 (by decide)]; simp [trn, h2]
  · rw [mvf3, if_pos hb, ← hT 3 (by decide)]; simp [trn, h3]
  · rw [mvf4, ← hT 1 (by decide)]; simp [trn, h0]

set_option maxHeartbeats 4000000 in
set_option maxRecDepth 100000 in
theorem c_Row_move (l : Launch) (D : va_G) (ct : Nat → ClassId) (st : Nat → Nat) (ra : Nat → Nat) (cnt : Nat) (ck : Nat → Int32) (cp : Nat → Int32) (ca : Nat → Int32) (cs : Nat → Int32) (cg : Nat → Int32) (hn8 : cnt ≤ 8) (hFB : FB cnt (fR ck cp cs cg ca)) (sz : Nat) : Met l y_Row_move (wsy y_Row_move b_Row_move 5 (none)) (rmW 2 0 0 36) (PcW D ct st [.ref (ra 0)] [((ra 0), .inr (3, [.int (nI cnt), .ref (ra 1), .ref (ra 2), .ref (ra 3), .ref (ra 4), .ref (ra 5)])), ((ra 1), .inl (ct 0, 8, .inl ck)), ((ra 2), .inl (ct 0, 8, .inl cp)), ((ra 3), .inl (ct 0, 8, .inl ca)), ((ra 4), .inl (ct 0, 8, .inl cs)), ((ra 5), .inl (ct 0, 8, .inl cg))] sz) (QcW D [((ra 0), .inr (3, [.int (nI cnt), .ref (ra 1), .ref (ra 2), .ref (ra 3), .ref (ra 4), .ref (ra 5)])), ((ra 1), .inl (ct 0, 8, .inl ck)), ((ra 2), .inl (ct 0, 8, .inl cp)), ((ra 3), .inl (ct 0, 8, .inl ca)), ((ra 4), .inl (ct 0, 8, .inl cs)), ((ra 5), .inl (ct 0, 8, .inl cg))] sz (fun v W1 => ∃ (ck1 : Nat → Int32) (cp1 : Nat → Int32) (ca1 : Nat → Int32) (cs1 : Nat → Int32) (cg1 : Nat → Int32), v = none ∧ W1 = [((ra 0), .inr (3, [.int (nI ((mv (fR ck cp cs cg ca) cnt).1)), .ref (ra 1), .ref (ra 2), .ref (ra 3), .ref (ra 4), .ref (ra 5)])), ((ra 1), .inl (ct 0, 8, .inl ck1)), ((ra 2), .inl (ct 0, 8, .inl cp1)), ((ra 3), .inl (ct 0, 8, .inl ca1)), ((ra 4), .inl (ct 0, 8, .inl cs1)), ((ra 5), .inl (ct 0, 8, .inl cg1))] ∧ (Ag (mv (fR ck cp cs cg ca) cnt).1 (fR ck1 cp1 cs1 cg1 ca1) (mv (fR ck cp cs cg ca) cnt).2))) 0 0 (va_A [((ra 0), .inr (3, [.int (nI cnt), .ref (ra 1), .ref (ra 2), .ref (ra 3), .ref (ra 4), .ref (ra 5)])), ((ra 1), .inl (ct 0, 8, .inl ck)), ((ra 2), .inl (ct 0, 8, .inl cp)), ((ra 3), .inl (ct 0, 8, .inl ca)), ((ra 4), .inl (ct 0, 8, .inl cs)), ((ra 5), .inl (ct 0, 8, .inl cg))] sz) := by
  refine enterW (by decide) (Nat.le_of_ble_eq_true rfl) ?_
  intro p e s m args below meth c ls A hx hb hr hml hown hts hlk hin hsz hAe hP hD hA hE hV hS hl
  have hl : lv_has ls 5 [(0, .ref (ra 0))] := hl
  refine lv_iconst (v := 0) hx hb d_Row_move_0 (by decide) ?_
  refine lv_istore_n (lv' := [(1, .int 0), (0, .ref (ra 0))]) hx hb d_Row_move_1 rfl hl (by decide) rfl (fun ls hl => ?_)
  refine lv_iconst (v := 0) hx hb d_Row_move_2 (by decide) ?_
  refine lv_istore_n (lv' := [(2, .int 0), (1, .int 0), (0, .ref (ra 0))]) hx hb d_Row_move_3 rfl hl (by decide) rfl (fun ls hl => ?_)
  have loop_4 : ∀ (n9 : Nat) (k : Nat) (i : Nat) (Tck : Nat → Int32) (Tcp : Nat → Int32) (Tca : Nat → Int32) (Tcs : Nat → Int32) (Tcg : Nat → Int32) (hi : i ≤ cnt) (hkk : k = (mv (fR ck cp cs cg ca) i).1) (hAA : ∀ a j, a < 5 → j < k → (fR Tck Tcp Tcs Tcg Tca) a j = (mv (fR ck cp cs cg ca) i).2 a j) (hBB : ∀ a j, a < 4 → i ≤ j → j < cnt → (fR Tck Tcp Tcs Tcg Tca) a j = (fR ck cp cs cg ca) a j) (hn9 : cnt - i < n9) (H : Heap) (locs : List Loc) (ls : Array Slot), va_P D classes [((ra 0), .inr (3, [.int (nI cnt), .ref (ra 1), .ref (ra 2), .ref (ra 3), .ref (ra 4), .ref (ra 5)])), ((ra 1), .inl (ct 0, 8, .inl Tck)), ((ra 2), .inl (ct 0, 8, .inl Tcp)), ((ra 3), .inl (ct 0, 8, .inl Tca)), ((ra 4), .inl (ct 0, 8, .inl Tcs)), ((ra 5), .inl (ct 0, 8, .inl Tcg))] H → va_D A [((ra 0), .inr (3, [.int (nI cnt), .ref (ra 1), .ref (ra 2), .ref (ra 3), .ref (ra 4), .ref (ra 5)])), ((ra 1), .inl (ct 0, 8, .inl Tck)), ((ra 2), .inl (ct 0, 8, .inl Tcp)), ((ra 3), .inl (ct 0, 8, .inl Tca)), ((ra 4), .inl (ct 0, 8, .inl Tcs)), ((ra 5), .inl (ct 0, 8, .inl Tcg))] → va_S A s.heap H locs → lv_has ls 5 [(0, .ref (ra 0)), (1, .int (nI k)), (2, .int (nI i))] → W p l e (rmW 2 0 0 36) s m args below meth c H locs (0) (0) (MQ below (QcW D [((ra 0), .inr (3, [.int (nI cnt), .ref (ra 1), .ref (ra 2), .ref (ra 3), .ref (ra 4), .ref (ra 5)])), ((ra 1), .inl (ct 0, 8, .inl ck)), ((ra 2), .inl (ct 0, 8, .inl cp)), ((ra 3), .inl (ct 0, 8, .inl ca)), ((ra 4), .inl (ct 0, 8, .inl cs)), ((ra 5), .inl (ct 0, 8, .inl cg))] sz (fun v W1 => ∃ (ck1 : Nat → Int32) (cp1 : Nat → Int32) (ca1 : Nat → Int32) (cs1 : Nat → Int32) (cg1 : Nat → Int32), v = none ∧ W1 = [((ra 0), .inr (3, [.int (nI ((mv (fR ck cp cs cg ca) cnt).1)), .ref (ra 1), .ref (ra 2), .ref (ra 3), .ref (ra 4), .ref (ra 5)])), ((ra 1), .inl (ct 0, 8, .inl ck1)), ((ra 2), .inl (ct 0, 8, .inl cp1)), ((ra 3), .inl (ct 0, 8, .inl ca1)), ((ra 4), .inl (ct 0, 8, .inl cs1)), ((ra 5), .inl (ct 0, 8, .inl cg1))] ∧ (Ag (mv (fR ck cp cs cg ca) cnt).1 (fR ck1 cp1 cs1 cg1 ca1) (mv (fR ck cp cs cg ca) cnt).2))) args s 0 0 A) (F0 m 4 ls []) := by
    intro n9
    induction n9 with
    | zero => intro k i Tck Tcp Tca Tcs Tcg hi hkk hAA hBB hn9 H locs ls hP hD hS hl; exact absurd hn9 (Nat.not_lt_zero _)
    | succ n9 ih_4 =>
      intro k i Tck Tcp Tca Tcs Tcg hi hkk hAA hBB hn9 H locs ls hP hD hS hl
      have hki := mv_le (fR ck cp cs cg ca) i
      refine lv_iload_n hx hb d_Row_move_4 rfl (lv_at hl 2 rfl) ?_
      refine lv_aload_n hx hb d_Row_move_5 rfl (lv_at hl 0 rfl) ?_
      refine q_get 0 0 i_Row rfl hx hb hts hown hE hP rfl (by decide) x_149 rfl d_Row_move_6 ?_
      refine q_icmp_ge_n (a := i) (b := cnt) (tgt := 110) hx hb d_Row_move_9 (by decide) rfl rfl (by omega) (by omega) (fun h_9 => ?_) (fun h_9 => ?_)
      · have hic : i = cnt := by omega
        refine lv_aload_n hx hb d_Row_move_110 rfl (lv_at hl 0 rfl) ?_
        refine lv_iload_n hx hb d_Row_move_111 rfl (lv_at hl 1 rfl) ?_
        refine q_topi (v := nI ((mv (fR ck cp cs cg ca) cnt).1)) (congrArg nI (by rw [hkk, hic])) ?_
        refine q_put (ty := .int) 0 0 (ws1 := [((ra 0), .inr (3, [.int (nI ((mv (fR ck cp cs cg ca) cnt).1)), .ref (ra 1), .ref (ra 2), .ref (ra 3), .ref (ra 4), .ref (ra 5)])), ((ra 1), .inl (ct 0, 8, .inl Tck)), ((ra 2), .inl (ct 0, 8, .inl Tcp)), ((ra 3), .inl (ct 0, 8, .inl Tca)), ((ra 4), .inl (ct 0, 8, .inl Tcs)), ((ra 5), .inl (ct 0, 8, .inl Tcg))]) t_Row i_Row t_Row_ok n_Row rfl hx hb hts hown hE hP hD hS rfl (by decide) x_149 rfl (by decide +kernel) (rfl) rfl (Nat.le_of_ble_eq_true rfl) rfl d_Row_move_112 (fun H locs hP hD hS => ?_)
        exact rW_v hx hb hr hlk hAe hS hP hD (Nat.le_of_ble_eq_true rfl) (Nat.le_of_ble_eq_true rfl) d_Row_move_115 ⟨Tck, Tcp, Tca, Tcs, Tcg, rfl, rfl, fun a j ha hj => (hAA a j ha (by rw [hkk, hic]; exact hj)).trans (by rw [hic])⟩
      · have hic : i < cnt := by omega
        obtain ⟨r0, r1, r2, r3⟩ := hFB i hic
        have hTF : ∀ a, a < 4 → (fR Tck Tcp Tcs Tcg Tca) a i = (fR ck cp cs cg ca) a i := fun a ha => hBB a i ha (Nat.le_refl _) hic
        have hx9 : (Tcp i).toInt = (fR ck cp cs cg ca) 1 i := by have := hTF 1 (by decide); rw [fR1] at this; exact this
        have hy9 : (Tcs i).toInt = (fR ck cp cs cg ca) 2 i := by have := hTF 2 (by decide); rw [fR2] at this; exact this
        have hz9 : (Tck i).toInt = (fR ck cp cs cg ca) 0 i := by have := hTF 0 (by decide); rw [fR0] at this; exact this
        refine lv_aload_n hx hb d_Row_move_12 rfl (lv_at hl 0 rfl) ?_
        refine q_get 0 2 i_Row rfl hx hb hts hown hE hP rfl (by decide) x_152 rfl d_Row_move_13 ?_
        refine lv_iload_n hx hb d_Row_move_16 rfl (lv_at hl 2 rfl) ?_
        refine q_iald (k := i) 2 hx hb hE hP rfl rfl (by omega) (by decide) d_Row_move_17 ?_
        refine lv_aload_n hx hb d_Row_move_18 rfl (lv_at hl 0 rfl) ?_
        refine q_get 0 4 i_Row rfl hx hb hts hown hE hP rfl (by decide) x_154 rfl d_Row_move_19 ?_
        refine lv_iload_n hx hb d_Row_move_22 rfl (lv_at hl 2 rfl) ?_
        refine q_iald (k := i) 4 hx hb hE hP rfl rfl (by omega) (by decide) d_Row_move_23 ?_
        refine lv_iadd hx hb d_Row_move_24 ?_
        refine lv_topi (fun to9 eto9 => ?_)
        refine lv_istore_n (lv' := [(3, .int to9), (0, .ref (ra 0)), (1, .int (nI k)), (2, .int (nI i))]) hx hb d_Row_move_25 rfl hl (by decide) rfl (fun ls hl => ?_)
        have hto : to9.toInt = (fR ck cp cs cg ca) 1 i + (fR ck cp cs cg ca) 2 i := by rw [eto9, fb_addI (by omega) (by omega), hx9, hy9]
        refine lv_iload_n hx hb d_Row_move_26 rfl (lv_at hl 0 rfl) ?_
        refine lv_if_lt (tgt := 36) hx hb d_Row_move_27 (by decide) (fun h_27 => ?_) (fun h_27 => ?_)
        · have g27 : to9.toInt < 0 := Int32.lt_iff_toInt_lt.mp h_27
          refine lv_iconst (v := 1) hx hb d_Row_move_36 (by decide) ?_
          refine lv_goto (tgt := 41) hx hb d_Row_move_37 (by decide) ?_
          refine lv_istore (lv' := [(4, .int 1), (3, .int to9), (0, .ref (ra 0)), (1, .int (nI k)), (2, .int (nI i))]) hx hb d_Row_move_41 hl (by decide) rfl (fun ls hl => ?_)
          refine lv_iload hx hb d_Row_move_43 (lv_at hl 0 rfl) ?_
          refine lv_if_eq (tgt := 57) hx hb d_Row_move_45 (by decide) (fun h => absurd h (by decide)) (fun _ => ?_)
          refine lv_aload_n hx hb d_Row_move_48 rfl (lv_at hl 2 rfl) ?_
          refine q_get 0 1 i_Row rfl hx hb hts hown hE hP rfl (by decide) x_151 rfl d_Row_move_49 ?_
          refine lv_iload_n hx hb d_Row_move_52 rfl (lv_at hl 4 rfl) ?_
          refine q_iald (k := i) 1 hx hb hE hP rfl rfl (by omega) (by decide) d_Row_move_53 ?_
          refine lv_if_ne (tgt := 104) hx hb d_Row_move_54 (by decide) (fun h_54 => ?_) (fun h_54 => ?_)
          · have g54 : ¬ (fR ck cp cs cg ca) 0 i = 0 := fun z => h_54 (Int32.toInt_inj.mp (hz9.trans z))
            have hns9 : ¬ mv_st (fR ck cp cs cg ca) i := fun z => z.elim (fun w => w (by show ((fR ck cp cs cg ca) 1 i + (fR ck cp cs cg ca) 2 i < 0 ∨ 100000 < (fR ck cp cs cg ca) 1 i + (fR ck cp cs cg ca) 2 i); omega)) (fun w => g54 w)
            refine lv_iinc (v := (nI (i + 1))) (lv' := [(2, .int (nI (i + 1))), (4, .int 1), (3, .int to9), (0, .ref (ra 0)), (1, .int (nI k))]) hx hb d_Row_move_104 hl (k := 4) rfl (nI_1 _) (by decide) rfl (fun ls hl => ?_)
            refine lv_goto (tgt := 4) hx hb d_Row_move_107 (by decide) ?_
            exact ih_4 k (i + 1) Tck Tcp Tca Tcs Tcg (by omega) (by first | exact key.1 | (rw [cmv_n hns9]; exact hkk)) (by first | exact key.2.1 | (rw [cmv_n hns9]; exact hAA)) (by first | exact key.2.2 | exact fun a j ha hj hj2 => hBB a j ha (by omega) hj2) (by omega) _ _ _ hP hD hS (lv_sub hl [3, 4, 0] rfl)
          · have g54 : (fR ck cp cs cg ca) 0 i = 0 := hz9.symm.trans (congrArg Int32.toInt h_54)
            refine lv_aload_n hx hb d_Row_move_57 rfl (lv_at hl 2 rfl) ?_
            refine lv_iload_n hx hb d_Row_move_58 rfl (lv_at hl 4 rfl) ?_
            refine lv_iload_n hx hb d_Row_move_59 rfl (lv_at hl 3 rfl) ?_
            refine cWV (As := [.int (nI i), .int (nI k)]) (rest := []) (q9 := 0) (ci := 3) K_Row_copyFront x_646 hx hb hml hown hts hE hV hS (c_Row_copyFront l D ct st ra cnt Tck Tcp Tca Tcs Tcg i k (by omega) (by omega) _) hP hD hA [0, 1, 2, 3, 4, 5] [] (wr := []) rfl rfl (by decide) (by decide) (by decide) rfl hP rfl rfl hl.1 rfl (Nat.le_of_ble_eq_true rfl) d_Row_move_60 (Nat.le_of_ble_eq_true rfl) (Nat.le_of_ble_eq_true rfl) ⟨Nat.le_of_ble_eq_true rfl, Nat.le_of_ble_eq_true rfl⟩ (fun v W1 H locs hpost hP hD hS => ?_)
            obtain ⟨ck1_1, cp1_1, ca1_1, cs1_1, cg1_1, rfl, rfl, hq_60⟩ := hpost
            have hP : va_P D classes [((ra 0), .inr (3, [.int (nI cnt), .ref (ra 1), .ref (ra 2), .ref (ra 3), .ref (ra 4), .ref (ra 5)])), ((ra 1), .inl (ct 0, 8, .inl ck1_1)), ((ra 2), .inl (ct 0, 8, .inl cp1_1)), ((ra 3), .inl (ct 0, 8, .inl ca1_1)), ((ra 4), .inl (ct 0, 8, .inl cs1_1)), ((ra 5), .inl (ct 0, 8, .inl cg1_1))] H := hP
            have hD : va_D A [((ra 0), .inr (3, [.int (nI cnt), .ref (ra 1), .ref (ra 2), .ref (ra 3), .ref (ra 4), .ref (ra 5)])), ((ra 1), .inl (ct 0, 8, .inl ck1_1)), ((ra 2), .inl (ct 0, 8, .inl cp1_1)), ((ra 3), .inl (ct 0, 8, .inl ca1_1)), ((ra 4), .inl (ct 0, 8, .inl cs1_1)), ((ra 5), .inl (ct 0, 8, .inl cg1_1))] := hD
            refine lv_aload_n hx hb d_Row_move_63 rfl (lv_at hl 2 rfl) ?_
            refine q_get 0 3 i_Row rfl hx hb hts hown hE hP rfl (by decide) x_153 rfl d_Row_move_64 ?_
            refine lv_iload_n hx hb d_Row_move_67 rfl (lv_at hl 3 rfl) ?_
            refine lv_aload_n hx hb d_Row_move_68 rfl (lv_at hl 2 rfl) ?_
            refine q_get 0 2 i_Row rfl hx hb hts hown hE hP rfl (by decide) x_152 rfl d_Row_move_69 ?_
            refine lv_iload_n hx hb d_Row_move_72 rfl (lv_at hl 4 rfl) ?_
            refine q_iald (k := i) 2 hx hb hE hP rfl rfl (by omega) (by decide) d_Row_move_73 ?_
            obtain ⟨ca_1, eca_1⟩ : ∃ g9 : Nat → Int32, g9 = upd ca1_1 k (cp1_1 i) := ⟨_, rfl⟩
            refine q_iast (k := k) 3 (ws1 := [((ra 0), .inr (3, [.int (nI cnt), .ref (ra 1), .ref (ra 2), .ref (ra 3), .ref (ra 4), .ref (ra 5)])), ((ra 1), .inl (ct 0, 8, .inl ck1_1)), ((ra 2), .inl (ct 0, 8, .inl cp1_1)), ((ra 3), .inl (ct 0, 8, .inl ca_1)), ((ra 4), .inl (ct 0, 8, .inl cs1_1)), ((ra 5), .inl (ct 0, 8, .inl cg1_1))]) eca_1 hx hb hE hP hD hS rfl rfl (by omega) (by decide) rfl d_Row_move_74 (fun H locs hP hD hS => ?_)
            refine lv_aload_n hx hb d_Row_move_75 rfl (lv_at hl 2 rfl) ?_
            refine q_get 0 2 i_Row rfl hx hb hts hown hE hP rfl (by decide) x_152 rfl d_Row_move_76 ?_
            refine lv_iload_n hx hb d_Row_move_79 rfl (lv_at hl 3 rfl) ?_
            refine lv_iconst (v := 0) hx hb d_Row_move_80 (by decide) ?_
            refine lv_iload_n hx hb d_Row_move_81 rfl (lv_at hl 1 rfl) ?_
            refine lv_ldc (v := 100000) hx hb hown (hts _ (List.mem_cons_of_mem _ x_662)) d_Row_move_82 ?_
            refine va_mmin hx hb (by rw [hml]; exact hl.1.symm) hown (hts _ (List.mem_cons_of_mem _ x_663)) (hts _ (List.mem_cons_of_mem _ x_376)) (hts _ (List.mem_cons_of_mem _ x_13)) (hts _ (List.mem_cons_of_mem _ x_377)) (Nat.le_of_ble_eq_true rfl) (Nat.le_of_ble_eq_true rfl) (Nat.le_of_ble_eq_true rfl) (Nat.le_of_ble_eq_true rfl) d_Row_move_84 ?_
            refine q_topi (v := (mnI to9 100000)) rfl ?_
            refine va_mmax hx hb (by rw [hml]; exact hl.1.symm) hown (hts _ (List.mem_cons_of_mem _ x_664)) (hts _ (List.mem_cons_of_mem _ x_510)) (hts _ (List.mem_cons_of_mem _ x_13)) (hts _ (List.mem_cons_of_mem _ x_511)) (Nat.le_of_ble_eq_true rfl) (Nat.le_of_ble_eq_true rfl) (Nat.le_of_ble_eq_true rfl) (Nat.le_of_ble_eq_true rfl) d_Row_move_87 ?_
            refine q_topi (v := (mxI 0 (mnI to9 100000))) rfl ?_
            obtain ⟨cp_1, ecp_1⟩ : ∃ g9 : Nat → Int32, g9 = upd cp1_1 k (mxI 0 (mnI to9 100000)) := ⟨_, rfl⟩
            refine q_iast (k := k) 2 (ws1 := [((ra 0), .inr (3, [.int (nI cnt), .ref (ra 1), .ref (ra 2), .ref (ra 3), .ref (ra 4), .ref (ra 5)])), ((ra 1), .inl (ct 0, 8, .inl ck1_1)), ((ra 2), .inl (ct 0, 8, .inl cp_1)), ((ra 3), .inl (ct 0, 8, .inl ca_1)), ((ra 4), .inl (ct 0, 8, .inl cs1_1)), ((ra 5), .inl (ct 0, 8, .inl cg1_1))]) ecp_1 hx hb hE hP hD hS rfl rfl (by omega) (by decide) rfl d_Row_move_90 (fun H locs hP hD hS => ?_)
            refine lv_iload hx hb d_Row_move_91 (lv_at hl 0 rfl) ?_
            refine lv_if_eq (tgt := 101) hx hb d_Row_move_93 (by decide) (fun h => absurd h (by decide)) (fun _ => ?_)
            have mid := fR_mid (T := (fR Tck Tcp Tcs Tcg Tca)) (show i < 8 by omega) hq_60 ecp_1 eca_1
            refine lv_aload_n hx hb d_Row_move_96 rfl (lv_at hl 2 rfl) ?_
            refine lv_iload_n hx hb d_Row_move_97 rfl (lv_at hl 3 rfl) ?_
            refine cWV (As := [.int (nI k)]) (rest := []) (q9 := 0) (ci := 3) K_Row_turn x_665 hx hb hml hown hts hE hV hS (c_Row_turn l D ct st ra cnt ck1_1 cp_1 ca_1 cs1_1 cg1_1 k (by omega) (by have z := hq_60 2 k (by decide) (by omega); rw [fR2, if_pos rfl, hTF 2 (by decide)] at z; rw [z]; exact ⟨r2.1, r2.2⟩) (by have z := hq_60 3 k (by decide) (by omega); rw [fR3, if_pos rfl, hTF 3 (by decide)] at z; rw [z]; exact ⟨r3.1, r3.2⟩) _) hP hD hA [0, 1, 2, 3, 4, 5] [] (wr := []) rfl rfl (by decide) (by decide) (by decide) rfl hP rfl rfl hl.1 rfl (Nat.le_of_ble_eq_true rfl) d_Row_move_98 (Nat.le_of_ble_eq_true rfl) (Nat.le_of_ble_eq_true rfl) ⟨Nat.le_of_ble_eq_true rfl, Nat.le_of_ble_eq_true rfl⟩ (fun v W1 H locs hpost hP hD hS => ?_)
            obtain ⟨cs1_2, cg1_2, rfl, rfl, hq_98⟩ := hpost
            have hP : va_P D classes [((ra 0), .inr (3, [.int (nI cnt), .ref (ra 1), .ref (ra 2), .ref (ra 3), .ref (ra 4), .ref (ra 5)])), ((ra 1), .inl (ct 0, 8, .inl ck1_1)), ((ra 2), .inl (ct 0, 8, .inl cp_1)), ((ra 3), .inl (ct 0, 8, .inl ca_1)), ((ra 4), .inl (ct 0, 8, .inl cs1_2)), ((ra 5), .inl (ct 0, 8, .inl cg1_2))] H := hP
            have hD : va_D A [((ra 0), .inr (3, [.int (nI cnt), .ref (ra 1), .ref (ra 2), .ref (ra 3), .ref (ra 4), .ref (ra 5)])), ((ra 1), .inl (ct 0, 8, .inl ck1_1)), ((ra 2), .inl (ct 0, 8, .inl cp_1)), ((ra 3), .inl (ct 0, 8, .inl ca_1)), ((ra 4), .inl (ct 0, 8, .inl cs1_2)), ((ra 5), .inl (ct 0, 8, .inl cg1_2))] := hD
            have hst9 : mv_st (fR ck cp cs cg ca) i := by first | exact Or.inr g54 | exact Or.inl (by show ¬ ((fR ck cp cs cg ca) 1 i + (fR ck cp cs cg ca) 2 i < 0 ∨ 100000 < (fR ck cp cs cg ca) 1 i + (fR ck cp cs cg ca) 2 i); omega)
            have hyy : (mxI 0 (mnI to9 100000)).toInt = if (fR ck cp cs cg ca) 1 i + (fR ck cp cs cg ca) 2 i < 0 then 0 else if 100000 < (fR ck cp cs cg ca) 1 i + (fR ck cp cs cg ca) 2 i then 100000 else (fR ck cp cs cg ca) 1 i + (fR ck cp cs cg ca) 2 i := by rw [clampI, hto]
            have hG9 : ∀ a j, a < 5 → j < 8 → fR ck1_1 cp_1 cs1_2 cg1_2 ca_1 a j = if j = k then mvf (fR ck cp cs cg ca) i a else (fR Tck Tcp Tcs Tcg Tca) a j := fun a j ha hj => by
              rw [hq_98 a j ha hj]
              by_cases q : j = k
              · rw [if_pos q, if_pos q]; exact cmv_rowt hTF hyy (by show ((fR ck cp cs cg ca) 1 i + (fR ck cp cs cg ca) 2 i < 0 ∨ 100000 < (fR ck cp cs cg ca) 1 i + (fR ck cp cs cg ca) 2 i); omega) (fun b hb => by rw [mid b k hb (by omega), if_pos rfl]) a ha
              · rw [if_neg q, if_neg q, mid a j ha hj, if_neg q]
            have key := cmv_s hic hn8 hkk hAA hBB hst9 hG9
            refine lv_iinc (v := (nI (k + 1))) (lv' := [(1, .int (nI (k + 1))), (4, .int 1), (3, .int to9), (0, .ref (ra 0)), (2, .int (nI i))]) hx hb d_Row_move_101 hl (k := 3) rfl (nI_1 _) (by decide) rfl (fun ls hl => ?_)
            refine lv_iinc (v := (nI (i + 1))) (lv' := [(2, .int (nI (i + 1))), (1, .int (nI (k + 1))), (4, .int 1), (3, .int to9), (0, .ref (ra 0))]) hx hb d_Row_move_104 hl (k := 4) rfl (nI_1 _) (by decide) rfl (fun ls hl => ?_)
            refine lv_goto (tgt := 4) hx hb d_Row_move_107 (by decide) ?_
            exact ih_4 (k + 1) (i + 1) ck1_1 cp_1 ca_1 cs1_2 cg1_2 (by omega) (by first | exact key.1 | (rw [cmv_n hns9]; exact hkk)) (by first | exact key.2.1 | (rw [cmv_n hns9]; exact hAA)) (by first | exact key.2.2 | exact fun a j ha hj hj2 => hBB a j ha (by omega) hj2) (by omega) _ _ _ hP hD hS (lv_sub hl [4, 1, 0] rfl)
        · have g27 : 0 ≤ to9.toInt := Int32.le_iff_toInt_le.mp (Int32.not_lt.mp h_27)
          refine lv_iload_n hx hb d_Row_move_30 rfl (lv_at hl 0 rfl) ?_
          refine lv_ldc (v := 100000) hx hb hown (hts _ (List.mem_cons_of_mem _ x_662)) d_Row_move_31 ?_
          refine lv_icmp_le (tgt := 40) hx hb d_Row_move_33 (by decide) (fun h_33 => ?_) (fun h_33 => ?_)
          · have g33 : to9.toInt ≤ 100000 := Int32.le_iff_toInt_le.mp h_33
            refine lv_iconst (v := 0) hx hb d_Row_move_40 (by decide) ?_
            refine lv_istore (lv' := [(4, .int 0), (3, .int to9), (0, .ref (ra 0)), (1, .int (nI k)), (2, .int (nI i))]) hx hb d_Row_move_41 hl (by decide) rfl (fun ls hl => ?_)
            refine lv_iload hx hb d_Row_move_43 (lv_at hl 0 rfl) ?_
            refine lv_if_eq (tgt := 57) hx hb d_Row_move_45 (by decide) (fun _ => ?_) (fun h => absurd h (by decide))
            refine lv_aload_n hx hb d_Row_move_57 rfl (lv_at hl 2 rfl) ?_
            refine lv_iload_n hx hb d_Row_move_58 rfl (lv_at hl 4 rfl) ?_
            refine lv_iload_n hx hb d_Row_move_59 rfl (lv_at hl 3 rfl) ?_
            refine cWV (As := [.int (nI i), .int (nI k)]) (rest := []) (q9 := 0) (ci := 3) K_Row_copyFront x_646 hx hb hml hown hts hE hV hS (c_Row_copyFront l D ct st ra cnt Tck Tcp Tca Tcs Tcg i k (by omega) (by omega) _) hP hD hA [0, 1, 2, 3, 4, 5] [] (wr := []) rfl rfl (by decide) (by decide) (by decide) rfl hP rfl rfl hl.1 rfl (Nat.le_of_ble_eq_true rfl) d_Row_move_60 (Nat.le_of_ble_eq_true rfl) (Nat.le_of_ble_eq_true rfl) ⟨Nat.le_of_ble_eq_true rfl, Nat.le_of_ble_eq_true rfl⟩ (fun v W1 H locs hpost hP hD hS => ?_)
            obtain ⟨ck1_2, cp1_2, ca1_2, cs1_3, cg1_3, rfl, rfl, hq_60⟩ := hpost
            have hP : va_P D classes [((ra 0), .inr (3, [.int (nI cnt), .ref (ra 1), .ref (ra 2), .ref (ra 3), .ref (ra 4), .ref (ra 5)])), ((ra 1), .inl (ct 0, 8, .inl ck1_2)), ((ra 2), .inl (ct 0, 8, .inl cp1_2)), ((ra 3), .inl (ct 0, 8, .inl ca1_2)), ((ra 4), .inl (ct 0, 8, .inl cs1_3)), ((ra 5), .inl (ct 0, 8, .inl cg1_3))] H := hP
            have hD : va_D A [((ra 0), .inr (3, [.int (nI cnt), .ref (ra 1), .ref (ra 2), .ref (ra 3), .ref (ra 4), .ref (ra 5)])), ((ra 1), .inl (ct 0, 8, .inl ck1_2)), ((ra 2), .inl (ct 0, 8, .inl cp1_2)), ((ra 3), .inl (ct 0, 8, .inl ca1_2)), ((ra 4), .inl (ct 0, 8, .inl cs1_3)), ((ra 5), .inl (ct 0, 8, .inl cg1_3))] := hD
            refine lv_aload_n hx hb d_Row_move_63 rfl (lv_at hl 2 rfl) ?_
            refine q_get 0 3 i_Row rfl hx hb hts hown hE hP rfl (by decide) x_153 rfl d_Row_move_64 ?_
            refine lv_iload_n hx hb d_Row_move_67 rfl (lv_at hl 3 rfl) ?_
            refine lv_aload_n hx hb d_Row_move_68 rfl (lv_at hl 2 rfl) ?_
            refine q_get 0 2 i_Row rfl hx hb hts hown hE hP rfl (by decide) x_152 rfl d_Row_move_69 ?_
            refine lv_iload_n hx hb d_Row_move_72 rfl (lv_at hl 4 rfl) ?_
            refine q_iald (k := i) 2 hx hb hE hP rfl rfl (by omega) (by decide) d_Row_move_73 ?_
            obtain ⟨ca_2, eca_2⟩ : ∃ g9 : Nat → Int32, g9 = upd ca1_2 k (cp1_2 i) := ⟨_, rfl⟩
            refine q_iast (k := k) 3 (ws1 := [((ra 0), .inr (3, [.int (nI cnt), .ref (ra 1), .ref (ra 2), .ref (ra 3), .ref (ra 4), .ref (ra 5)])), ((ra 1), .inl (ct 0, 8, .inl ck1_2)), ((ra 2), .inl (ct 0, 8, .inl cp1_2)), ((ra 3), .inl (ct 0, 8, .inl ca_2)), ((ra 4), .inl (ct 0, 8, .inl cs1_3)), ((ra 5), .inl (ct 0, 8, .inl cg1_3))]) eca_2 hx hb hE hP hD hS rfl rfl (by omega) (by decide) rfl d_Row_move_74 (fun H locs hP hD hS => ?_)
            refine lv_aload_n hx hb d_Row_move_75 rfl (lv_at hl 2 rfl) ?_
            refine q_get 0 2 i_Row rfl hx hb hts hown hE hP rfl (by decide) x_152 rfl d_Row_move_76 ?_
            refine lv_iload_n hx hb d_Row_move_79 rfl (lv_at hl 3 rfl) ?_
            refine lv_iconst (v := 0) hx hb d_Row_move_80 (by decide) ?_
            refine lv_iload_n hx hb d_Row_move_81 rfl (lv_at hl 1 rfl) ?_
            refine lv_ldc (v := 100000) hx hb hown (hts _ (List.mem_cons_of_mem _ x_662)) d_Row_move_82 ?_
            refine va_mmin hx hb (by rw [hml]; exact hl.1.symm) hown (hts _ (List.mem_cons_of_mem _ x_663)) (hts _ (List.mem_cons_of_mem _ x_376)) (hts _ (List.mem_cons_of_mem _ x_13)) (hts _ (List.mem_cons_of_mem _ x_377)) (Nat.le_of_ble_eq_true rfl) (Nat.le_of_ble_eq_true rfl) (Nat.le_of_ble_eq_true rfl) (Nat.le_of_ble_eq_true rfl) d_Row_move_84 ?_
            refine q_topi (v := (mnI to9 100000)) rfl ?_
            refine va_mmax hx hb (by rw [hml]; exact hl.1.symm) hown (hts _ (List.mem_cons_of_mem _ x_664)) (hts _ (List.mem_cons_of_mem _ x_510)) (hts _ (List.mem_cons_of_mem _ x_13)) (hts _ (List.mem_cons_of_mem _ x_511)) (Nat.le_of_ble_eq_true rfl) (Nat.le_of_ble_eq_true rfl) (Nat.le_of_ble_eq_true rfl) (Nat.le_of_ble_eq_true rfl) d_Row_move_87 ?_
            refine q_topi (v := (mxI 0 (mnI to9 100000))) rfl ?_
            obtain ⟨cp_2, ecp_2⟩ : ∃ g9 : Nat → Int32, g9 = upd cp1_2 k (mxI 0 (mnI to9 100000)) := ⟨_, rfl⟩
            refine q_iast (k := k) 2 (ws1 := [((ra 0), .inr (3, [.int (nI cnt), .ref (ra 1), .ref (ra 2), .ref (ra 3), .ref (ra 4), .ref (ra 5)])), ((ra 1), .inl (ct 0, 8, .inl ck1_2)), ((ra 2), .inl (ct 0, 8, .inl cp_2)), ((ra 3), .inl (ct 0, 8, .inl ca_2)), ((ra 4), .inl (ct 0, 8, .inl cs1_3)), ((ra 5), .inl (ct 0, 8, .inl cg1_3))]) ecp_2 hx hb hE hP hD hS rfl rfl (by omega) (by decide) rfl d_Row_move_90 (fun H locs hP hD hS => ?_)
            refine lv_iload hx hb d_Row_move_91 (lv_at hl 0 rfl) ?_
            refine lv_if_eq (tgt := 101) hx hb d_Row_move_93 (by decide) (fun _ => ?_) (fun h => absurd h (by decide))
            have hst9 : mv_st (fR ck cp cs cg ca) i := by first | exact Or.inr g54 | exact Or.inl (by show ¬ ((fR ck cp cs cg ca) 1 i + (fR ck cp cs cg ca) 2 i < 0 ∨ 100000 < (fR ck cp cs cg ca) 1 i + (fR ck cp cs cg ca) 2 i); omega)
            have hyy : (mxI 0 (mnI to9 100000)).toInt = if (fR ck cp cs cg ca) 1 i + (fR ck cp cs cg ca) 2 i < 0 then 0 else if 100000 < (fR ck cp cs cg ca) 1 i + (fR ck cp cs cg ca) 2 i then 100000 else (fR ck cp cs cg ca) 1 i + (fR ck cp cs cg ca) 2 i := by rw [clampI, hto]
            have mid := fR_mid (T := (fR Tck Tcp Tcs Tcg Tca)) (show i < 8 by omega) hq_60 ecp_2 eca_2
            have hG9 : ∀ a j, a < 5 → j < 8 → fR ck1_2 cp_2 cs1_3 cg1_3 ca_2 a j = if j = k then mvf (fR ck cp cs cg ca) i a else (fR Tck Tcp Tcs Tcg Tca) a j := fun a j ha hj => by rw [mid a j ha hj, cmv_row hTF hyy (by show ¬ ((fR ck cp cs cg ca) 1 i + (fR ck cp cs cg ca) 2 i < 0 ∨ 100000 < (fR ck cp cs cg ca) 1 i + (fR ck cp cs cg ca) 2 i); omega) a ha]
            have key := cmv_s hic hn8 hkk hAA hBB hst9 hG9
            refine lv_iinc (v := (nI (k + 1))) (lv' := [(1, .int (nI (k + 1))), (4, .int 0), (3, .int to9), (0, .ref (ra 0)), (2, .int (nI i))]) hx hb d_Row_move_101 hl (k := 3) rfl (nI_1 _) (by decide) rfl (fun ls hl => ?_)
            refine lv_iinc (v := (nI (i + 1))) (lv' := [(2, .int (nI (i + 1))), (1, .int (nI (k + 1))), (4, .int 0), (3, .int to9), (0, .ref (ra 0))]) hx hb d_Row_move_104 hl (k := 4) rfl (nI_1 _) (by decide) rfl (fun ls hl => ?_)
            refine lv_goto (tgt := 4) hx hb d_Row_move_107 (by decide) ?_
            exact ih_4 (k + 1) (i + 1) ck1_2 cp_2 ca_2 cs1_3 cg1_3 (by omega) (by first | exact key.1 | (rw [cmv_n hns9]; exact hkk)) (by first | exact key.2.1 | (rw [cmv_n hns9]; exact hAA)) (by first | exact key.2.2 | exact fun a j ha hj hj2 => hBB a j ha (by omega) hj2) (by omega) _ _ _ hP hD hS (lv_sub hl [4, 1, 0] rfl)
          · have g33 : 100000 < to9.toInt := Int32.lt_iff_toInt_lt.mp (Int32.not_le.mp h_33)
            refine lv_iconst (v := 1) hx hb d_Row_move_36 (by decide) ?_
            refine lv_goto (tgt := 41) hx hb d_Row_move_37 (by decide) ?_
            refine lv_istore (lv' := [(4, .int 1), (3, .int to9), (0, .ref (ra 0)), (1, .int (nI k)), (2, .int (nI i))]) hx hb d_Row_move_41 hl (by decide) rfl (fun ls hl => ?_)
            refine lv_iload hx hb d_Row_move_43 (lv_at hl 0 rfl) ?_
            refine lv_if_eq (tgt := 57) hx hb d_Row_move_45 (by decide) (fun h => absurd h (by decide)) (fun _ => ?_)
            refine lv_aload_n hx hb d_Row_move_48 rfl (lv_at hl 2 rfl) ?_
            refine q_get 0 1 i_Row rfl hx hb hts hown hE hP rfl (by decide) x_151 rfl d_Row_move_49 ?_
            refine lv_iload_n hx hb d_Row_move_52 rfl (lv_at hl 4 rfl) ?_
            refine q_iald (k := i) 1 hx hb hE hP rfl rfl (by omega) (by decide) d_Row_move_53 ?_
            refine lv_if_ne (tgt := 104) hx hb d_Row_move_54 (by decide) (fun h_54 => ?_) (fun h_54 => ?_)
            · have g54 : ¬ (fR ck cp cs cg ca) 0 i = 0 := fun z => h_54 (Int32.toInt_inj.mp (hz9.trans z))
              have hns9 : ¬ mv_st (fR ck cp cs cg ca) i := fun z => z.elim (fun w => w (by show ((fR ck cp cs cg ca) 1 i + (fR ck cp cs cg ca) 2 i < 0 ∨ 100000 < (fR ck cp cs cg ca) 1 i + (fR ck cp cs cg ca) 2 i); omega)) (fun w => g54 w)
              refine lv_iinc (v := (nI (i + 1))) (lv' := [(2, .int (nI (i + 1))), (4, .int 1), (3, .int to9), (0, .ref (ra 0)), (1, .int (nI k))]) hx hb d_Row_move_104 hl (k := 4) rfl (nI_1 _) (by decide) rfl (fun ls hl => ?_)
              refine lv_goto (tgt := 4) hx hb d_Row_move_107 (by decide) ?_
              exact ih_4 k (i + 1) Tck Tcp Tca Tcs Tcg (by omega) (by first | exact key.1 | (rw [cmv_n hns9]; exact hkk)) (by first | exact key.2.1 | (rw [cmv_n hns9]; exact hAA)) (by first | exact key.2.2 | exact fun a j ha hj hj2 => hBB a j ha (by omega) hj2) (by omega) _ _ _ hP hD hS (lv_sub hl [3, 4, 0] rfl)
            · have g54 : (fR ck cp cs cg ca) 0 i = 0 := hz9.symm.trans (congrArg Int32.toInt h_54)
              refine lv_aload_n hx hb d_Row_move_57 rfl (lv_at hl 2 rfl) ?_
              refine lv_iload_n hx hb d_Row_move_58 rfl (lv_at hl 4 rfl) ?_
              refine lv_iload_n hx hb d_Row_move_59 rfl (lv_at hl 3 rfl) ?_
              refine cWV (As := [.int (nI i), .int (nI k)]) (rest := []) (q9 := 0) (ci := 3) K_Row_copyFront x_646 hx hb hml hown hts hE hV hS (c_Row_copyFront l D ct st ra cnt Tck Tcp Tca Tcs Tcg i k (by omega) (by omega) _) hP hD hA [0, 1, 2, 3, 4, 5] [] (wr := []) rfl rfl (by decide) (by decide) (by decide) rfl hP rfl rfl hl.1 rfl (Nat.le_of_ble_eq_true rfl) d_Row_move_60 (Nat.le_of_ble_eq_true rfl) (Nat.le_of_ble_eq_true rfl) ⟨Nat.le_of_ble_eq_true rfl, Nat.le_of_ble_eq_true rfl⟩ (fun v W1 H locs hpost hP hD hS => ?_)
              obtain ⟨ck1_3, cp1_3, ca1_3, cs1_4, cg1_4, rfl, rfl, hq_60⟩ := hpost
              have hP : va_P D classes [((ra 0), .inr (3, [.int (nI cnt), .ref (ra 1), .ref (ra 2), .ref (ra 3), .ref (ra 4), .ref (ra 5)])), ((ra 1), .inl (ct 0, 8, .inl ck1_3)), ((ra 2), .inl (ct 0, 8, .inl cp1_3)), ((ra 3), .inl (ct 0, 8, .inl ca1_3)), ((ra 4), .inl (ct 0, 8, .inl cs1_4)), ((ra 5), .inl (ct 0, 8, .inl cg1_4))] H := hP
              have hD : va_D A [((ra 0), .inr (3, [.int (nI cnt), .ref (ra 1), .ref (ra 2), .ref (ra 3), .ref (ra 4), .ref (ra 5)])), ((ra 1), .inl (ct 0, 8, .inl ck1_3)), ((ra 2), .inl (ct 0, 8, .inl cp1_3)), ((ra 3), .inl (ct 0, 8, .inl ca1_3)), ((ra 4), .inl (ct 0, 8, .inl cs1_4)), ((ra 5), .inl (ct 0, 8, .inl cg1_4))] := hD
              refine lv_aload_n hx hb d_Row_move_63 rfl (lv_at hl 2 rfl) ?_
              refine q_get 0 3 i_Row rfl hx hb hts hown hE hP rfl (by decide) x_153 rfl d_Row_move_64 ?_
              refine lv_iload_n hx hb d_Row_move_67 rfl (lv_at hl 3 rfl) ?_
              refine lv_aload_n hx hb d_Row_move_68 rfl (lv_at hl 2 rfl) ?_
              refine q_get 0 2 i_Row rfl hx hb hts hown hE hP rfl (by decide) x_152 rfl d_Row_move_69 ?_
              refine lv_iload_n hx hb d_Row_move_72 rfl (lv_at hl 4 rfl) ?_
              refine q_iald (k := i) 2 hx hb hE hP rfl rfl (by omega) (by decide) d_Row_move_73 ?_
              obtain ⟨ca_3, eca_3⟩ : ∃ g9 : Nat → Int32, g9 = upd ca1_3 k (cp1_3 i) := ⟨_, rfl⟩
              refine q_iast (k := k) 3 (ws1 := [((ra 0), .inr (3, [.int (nI cnt), .ref (ra 1), .ref (ra 2), .ref (ra 3), .ref (ra 4), .ref (ra 5)])), ((ra 1), .inl (ct 0, 8, .inl ck1_3)), ((ra 2), .inl (ct 0, 8, .inl cp1_3)), ((ra 3), .inl (ct 0, 8, .inl ca_3)), ((ra 4), .inl (ct 0, 8, .inl cs1_4)), ((ra 5), .inl (ct 0, 8, .inl cg1_4))]) eca_3 hx hb hE hP hD hS rfl rfl (by omega) (by decide) rfl d_Row_move_74 (fun H locs hP hD hS => ?_)
              refine lv_aload_n hx hb d_Row_move_75 rfl (lv_at hl 2 rfl) ?_
              refine q_get 0 2 i_Row rfl hx hb hts hown hE hP rfl (by decide) x_152 rfl d_Row_move_76 ?_
              refine lv_iload_n hx hb d_Row_move_79 rfl (lv_at hl 3 rfl) ?_
              refine lv_iconst (v := 0) hx hb d_Row_move_80 (by decide) ?_
              refine lv_iload_n hx hb d_Row_move_81 rfl (lv_at hl 1 rfl) ?_
              refine lv_ldc (v := 100000) hx hb hown (hts _ (List.mem_cons_of_mem _ x_662)) d_Row_move_82 ?_
              refine va_mmin hx hb (by rw [hml]; exact hl.1.symm) hown (hts _ (List.mem_cons_of_mem _ x_663)) (hts _ (List.mem_cons_of_mem _ x_376)) (hts _ (List.mem_cons_of_mem _ x_13)) (hts _ (List.mem_cons_of_mem _ x_377)) (Nat.le_of_ble_eq_true rfl) (Nat.le_of_ble_eq_true rfl) (Nat.le_of_ble_eq_true rfl) (Nat.le_of_ble_eq_true rfl) d_Row_move_84 ?_
              refine q_topi (v := (mnI to9 100000)) rfl ?_
              refine va_mmax hx hb (by rw [hml]; exact hl.1.symm) hown (hts _ (List.mem_cons_of_mem _ x_664)) (hts _ (List.mem_cons_of_mem _ x_510)) (hts _ (List.mem_cons_of_mem _ x_13)) (hts _ (List.mem_cons_of_mem _ x_511)) (Nat.le_of_ble_eq_true rfl) (Nat.le_of_ble_eq_true rfl) (Nat.le_of_ble_eq_true rfl) (Nat.le_of_ble_eq_true rfl) d_Row_move_87 ?_
              refine q_topi (v := (mxI 0 (mnI to9 100000))) rfl ?_
              obtain ⟨cp_3, ecp_3⟩ : ∃ g9 : Nat → Int32, g9 = upd cp1_3 k (mxI 0 (mnI to9 100000)) := ⟨_, rfl⟩
              refine q_iast (k := k) 2 (ws1 := [((ra 0), .inr (3, [.int (nI cnt), .ref (ra 1), .ref (ra 2), .ref (ra 3), .ref (ra 4), .ref (ra 5)])), ((ra 1), .inl (ct 0, 8, .inl ck1_3)), ((ra 2), .inl (ct 0, 8, .inl cp_3)), ((ra 3), .inl (ct 0, 8, .inl ca_3)), ((ra 4), .inl (ct 0, 8, .inl cs1_4)), ((ra 5), .inl (ct 0, 8, .inl cg1_4))]) ecp_3 hx hb hE hP hD hS rfl rfl (by omega) (by decide) rfl d_Row_move_90 (fun H locs hP hD hS => ?_)
              refine lv_iload hx hb d_Row_move_91 (lv_at hl 0 rfl) ?_
              refine lv_if_eq (tgt := 101) hx hb d_Row_move_93 (by decide) (fun h => absurd h (by decide)) (fun _ => ?_)
              have mid := fR_mid (T := (fR Tck Tcp Tcs Tcg Tca)) (show i < 8 by omega) hq_60 ecp_3 eca_3
              refine lv_aload_n hx hb d_Row_move_96 rfl (lv_at hl 2 rfl) ?_
              refine lv_iload_n hx hb d_Row_move_97 rfl (lv_at hl 3 rfl) ?_
              refine cWV (As := [.int (nI k)]) (rest := []) (q9 := 0) (ci := 3) K_Row_turn x_665 hx hb hml hown hts hE hV hS (c_Row_turn l D ct st ra cnt ck1_3 cp_3 ca_3 cs1_4 cg1_4 k (by omega) (by have z := hq_60 2 k (by decide) (by omega); rw [fR2, if_pos rfl, hTF 2 (by decide)] at z; rw [z]; exact ⟨r2.1, r2.2⟩) (by have z := hq_60 3 k (by decide) (by omega); rw [fR3, if_pos rfl, hTF 3 (by decide)] at z; rw [z]; exact ⟨r3.1, r3.2⟩) _) hP hD hA [0, 1, 2, 3, 4, 5] [] (wr := []) rfl rfl (by decide) (by decide) (by decide) rfl hP rfl rfl hl.1 rfl (Nat.le_of_ble_eq_true rfl) d_Row_move_98 (Nat.le_of_ble_eq_true rfl) (Nat.le_of_ble_eq_true rfl) ⟨Nat.le_of_ble_eq_true rfl, Nat.le_of_ble_eq_true rfl⟩ (fun v W1 H locs hpost hP hD hS => ?_)
              obtain ⟨cs1_5, cg1_5, rfl, rfl, hq_98⟩ := hpost
              have hP : va_P D classes [((ra 0), .inr (3, [.int (nI cnt), .ref (ra 1), .ref (ra 2), .ref (ra 3), .ref (ra 4), .ref (ra 5)])), ((ra 1), .inl (ct 0, 8, .inl ck1_3)), ((ra 2), .inl (ct 0, 8, .inl cp_3)), ((ra 3), .inl (ct 0, 8, .inl ca_3)), ((ra 4), .inl (ct 0, 8, .inl cs1_5)), ((ra 5), .inl (ct 0, 8, .inl cg1_5))] H := hP
              have hD : va_D A [((ra 0), .inr (3, [.int (nI cnt), .ref (ra 1), .ref (ra 2), .ref (ra 3), .ref (ra 4), .ref (ra 5)])), ((ra 1), .inl (ct 0, 8, .inl ck1_3)), ((ra 2), .inl (ct 0, 8, .inl cp_3)), ((ra 3), .inl (ct 0, 8, .inl ca_3)), ((ra 4), .inl (ct 0, 8, .inl cs1_5)), ((ra 5), .inl (ct 0, 8, .inl cg1_5))] := hD
              have hst9 : mv_st (fR ck cp cs cg ca) i := by first | exact Or.inr g54 | exact Or.inl (by show ¬ ((fR ck cp cs cg ca) 1 i + (fR ck cp cs cg ca) 2 i < 0 ∨ 100000 < (fR ck cp cs cg ca) 1 i + (fR ck cp cs cg ca) 2 i); omega)
              have hyy : (mxI 0 (mnI to9 100000)).toInt = if (fR ck cp cs cg ca) 1 i + (fR ck cp cs cg ca) 2 i < 0 then 0 else if 100000 < (fR ck cp cs cg ca) 1 i + (fR ck cp cs cg ca) 2 i then 100000 else (fR ck cp cs cg ca) 1 i + (fR ck cp cs cg ca) 2 i := by rw [clampI, hto]
              have hG9 : ∀ a j, a < 5 → j < 8 → fR ck1_3 cp_3 cs1_5 cg1_5 ca_3 a j = if j = k then mvf (fR ck cp cs cg ca) i a else (fR Tck Tcp Tcs Tcg Tca) a j := fun a j ha hj => by
                rw [hq_98 a j ha hj]
                by_cases q : j = k
                · rw [if_pos q, if_pos q]; exact cmv_rowt hTF hyy (by show ((fR ck cp cs cg ca) 1 i + (fR ck cp cs cg ca) 2 i < 0 ∨ 100000 < (fR ck cp cs cg ca) 1 i + (fR ck cp cs cg ca) 2 i); omega) (fun b hb => by rw [mid b k hb (by omega), if_pos rfl]) a ha
                · rw [if_neg q, if_neg q, mid a j ha hj, if_neg q]
              have key := cmv_s hic hn8 hkk hAA hBB hst9 hG9
              refine lv_iinc (v := (nI (k + 1))) (lv' := [(1, .int (nI (k + 1))), (4, .int 1), (3, .int to9), (0, .ref (ra 0)), (2, .int (nI i))]) hx hb d_Row_move_101 hl (k := 3) rfl (nI_1 _) (by decide) rfl (fun ls hl => ?_)
              refine lv_iinc (v := (nI (i + 1))) (lv' := [(2, .int (nI (i + 1))), (1, .int (nI (k + 1))), (4, .int 1), (3, .int to9), (0, .ref (ra 0))]) hx hb d_Row_move_104 hl (k := 4) rfl (nI_1 _) (by decide) rfl (fun ls hl => ?_)
              refine lv_goto (tgt := 4) hx hb d_Row_move_107 (by decide) ?_
              exact ih_4 (k + 1) (i + 1) ck1_3 cp_3 ca_3 cs1_5 cg1_5 (by omega) (by first | exact key.1 | (rw [cmv_n hns9]; exact hkk)) (by first | exact key.2.1 | (rw [cmv_n hns9]; exact hAA)) (by first | exact key.2.2 | exact fun a j ha hj hj2 => hBB a j ha (by omega) hj2) (by omega) _ _ _ hP hD hS (lv_sub hl [4, 1, 0] rfl)
  exact loop_4 _ 0 0 ck cp ca cs cg (by omega) (rfl) (fun a j ha hj => absurd hj (Nat.not_lt_zero _)) (fun _ _ _ _ _ => rfl) (Nat.lt_succ_self _) _ _ _ hP hD hS (lv_sub hl [2, 1, 0] rfl)
