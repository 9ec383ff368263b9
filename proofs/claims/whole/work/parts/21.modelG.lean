theorem rat1 {F : RF} {pl : Int} {i : Nat} (h : F 1 i ≤ pl) : i + 1 = r_at F pl (i + 1) := (if_pos h).symm
theorem rat0 {F : RF} {pl : Int} {i : Nat} (h : ¬ F 1 i ≤ pl) : r_at F pl i = r_at F pl (i + 1) := (if_neg h).symm
theorem ins_row {F G G1 : RF} {cnt r : Nat} {nw : Nat → Int} (hr : r ≤ cnt) (hc : cnt < 8) (h1 : ∀ a j, a < 5 → j < 8 → G a j = if r < j ∧ j ≤ cnt then F a (j - 1) else F a j) (h2 : ∀ a j, a < 5 → j < 8 → G1 a j = if j = r then nw a else G a j) : Ag (cnt + 1) G1 (r_ins F r nw) := by
  intro a j ha hj
  show _ = if j < r then F a j else if j = r then nw a else F a (j - 1)
  rw [h2 a j ha (by omega)]
  by_cases q : j = r
  · rw [if_pos q, if_neg (by omega), if_pos q]
  · rw [if_neg q, h1 a j ha (by omega)]
    by_cases q2 : j < r
    · rw [if_pos q2, if_neg (by omega)]
    · rw [if_neg q2, if_neg q, if_pos (by omega)]
theorem lp0 (n : Nat) (G : RF) (k : Nat) : lp 0 n G k = (n, G) := rfl
theorem lpS (r n : Nat) (G : RF) (k : Nat) : lp (r + 1) n G k = if mt_on G k then lp r (mt n G k).1 (mt n G k).2.1 (mt n G k).2.2 else lp r n G (k + 1) := rfl
theorem tkn_FB {q : Nat × RF} (h : FB q.1 q.2) (hn : q.1 ≤ 8) : ∀ i, FB (tkn i q).1 (tkn i q).2 ∧ (tkn i q).1 ≤ 8
  | 0 => ⟨h, hn⟩
  | i + 1 => tk1_FB (tkn_FB h hn i).1 (tkn_FB h hn i).2
/-- in the midst of the meetings of one tick -/
def TI (Q : Nat × RF) (r k : Nat) (x : Int64) (F : RF) : Prop := ∃ n G, x = lN n ∧ n ≤ 8 ∧ Ag n F G ∧ FB n G ∧ lp r n G k = tk1 Q ∧ (k + r + 1 = n ∨ (n = 0 ∧ r = 0 ∧ k = 0))
theorem TI.begin {Q : Nat × RF} {F G1 : RF} {x : Int64} (hF : Ag4 Q.1 F Q.2) (hn : Q.1 ≤ 8) (hB : FB Q.1 Q.2) (hx : x = lN (mv F Q.1).1) (h1 : Ag (mv F Q.1).1 G1 (mv F Q.1).2) : TI Q ((mv F Q.1).1 - 1) 0 x G1 := by
  have e := mv_cong hF Q.1 (Nat.le_refl _)
  rw [e] at hx h1 ⊢
  have l := mv_le Q.2 Q.1
  exact ⟨_, _, hx, by omega, h1, mv_FB hB _ (Nat.le_refl _), rfl, by omega⟩
theorem on_cong {n : Nat} {F G : RF} {k : Nat} (h : Ag n F G) (hk : k + 1 < n) : mt_on F k ↔ mt_on G k := by
  unfold mt_on
  rw [h 1 k (by omega) (by omega), h 1 (k + 1) (by omega) hk, h 4 k (by omega) (by omega), h 4 (k + 1) (by omega) hk]
theorem TI.here {Q : Nat × RF} {F : RF} {r k n : Nat} {x : Int64} (h : TI Q r k x F) (hx : x = lN n) (hn : n ≤ 8) (hk : k + 1 < n) : FB n F ∧ 0 < r := by
  obtain ⟨m, G, e1, e2, e3, e4, e5, e6⟩ := h
  have e := e1.symm.trans hx
  rw [lN_eq (by omega) (by omega)] at e
  subst e
  exact ⟨e4.cong e3.symm.four, by omega⟩
theorem TI.meet {Q : Nat × RF} {F F1 : RF} {r k n : Nat} {x y : Int64} (h : TI Q r k x F) (hx : x = lN n) (hn : n ≤ 8) (hk : k + 1 < n) (ho : mt_on F k) (hy : y = lN (mt n F k).1) (h1 : Ag (mt n F k).1 F1 (mt n F k).2.1) : TI Q (r - 1) (mt n F k).2.2 y F1 := by
  obtain ⟨m, G, e1, e2, e3, e4, e5, e6⟩ := h
  have e := e1.symm.trans hx
  rw [lN_eq (by omega) (by omega)] at e
  subst e
  obtain ⟨r2, rfl⟩ : ∃ r2, r = r2 + 1 := ⟨r - 1, by omega⟩
  rw [lpS, if_pos ((on_cong e3 hk).mp ho)] at e5
  obtain ⟨c1, c2, c3⟩ := mt_cong e3 hk
  obtain ⟨i1, i2, i3, i4⟩ := mt_ix (F := G) hk hn
  rw [c2]
  exact ⟨_, _, by rw [hy, c1], i4, (h1.trans c3).trans (by rw [c1]; exact fun _ _ _ _ => rfl) |> fun z => by rw [c1] at z; exact z, mt_FB e4 hk, e5, Or.inl (by show (mt m G k).2.2 + r2 + 1 = _; omega)⟩
theorem TI.on {Q : Nat × RF} {F : RF} {r k n : Nat} {x : Int64} (h : TI Q r k x F) (hx : x = lN n) (hn : n ≤ 8) (hk : k + 1 < n) (ho : ¬ mt_on F k) : TI Q (r - 1) (k + 1) x F := by
  obtain ⟨m, G, e1, e2, e3, e4, e5, e6⟩ := h
  have e := e1.symm.trans hx
  rw [lN_eq (by omega) (by omega)] at e
  subst e
  obtain ⟨r2, rfl⟩ : ∃ r2, r = r2 + 1 := ⟨r - 1, by omega⟩
  rw [lpS, if_neg (fun z => ho ((on_cong e3 hk).mpr z))] at e5
  exact ⟨_, _, e1, e2, e3, e4, e5, Or.inl (by show k + 1 + r2 + 1 = _; omega)⟩
theorem TI.fin {Q : Nat × RF} {F : RF} {r k n : Nat} {x : Int64} (h : TI Q r k x F) (hx : x = lN n) (hn : n ≤ 8) (hk : n ≤ k + 1) : x = lN (tk1 Q).1 ∧ Ag (tk1 Q).1 F (tk1 Q).2 := by
  obtain ⟨m, G, e1, e2, e3, e4, e5, e6⟩ := h
  have e := e1.symm.trans hx
  rw [lN_eq (by omega) (by omega)] at e
  subst e
  obtain rfl : r = 0 := by omega
  rw [← e5, lp0]
  exact ⟨e1, e3⟩
theorem TI.cnt {Q : Nat × RF} {F : RF} {r k : Nat} {x : Int64} (h : TI Q r k x F) : ∃ n, x = lN n ∧ n ≤ 8 ∧ (k + 1 < n → k + r + 1 = n) := by
  obtain ⟨m, G, e1, e2, e3, e4, e5, e6⟩ := h
  exact ⟨m, e1, e2, fun z => by omega⟩

set_option maxHeartbeats 4000000 in
set_option maxRecDepth 100000 in
theorem c_M_front_ok (l : Launch) (D : va_G) (ct : Nat → ClassId) (st : Nat → Nat) (am : Nat → Nat) (th : Int32) (bu : Int64) (he : Int64) (S : Nat → Int64) (Bf : Nat → Int64) (cnt : Nat) (kd : Nat) (pl : Nat) (spI : Int32) (tg : Nat) (hcnt : S 210 = lN cnt) (hc7 : cnt < 8) (h1 : kd ≤ 2) (h2 : pl ≤ 100000) (h3 : w_in spI.toInt64 (-900) 900) (h4 : 1 ≤ tg ∧ tg ≤ 900) (sz : Nat) : Met l y_M_front (wsy y_M_front b_M_front 8 (some .int)) (rmW 2 0 0 44) (PcW D ct st [.ref (am 0), .int (nI kd), .int (nI pl), .int spI, .int (nI tg)] [((am 0), .inr (8, [.int th, .ref (am 1), .ref (am 2), .ref (am 3), .ref (am 4), .ref (am 5), .long bu, .long he, .ref (am 6), .ref (am 7)])), ((am 1), .inl (ct 1, 334, .inr (.inl S))), ((am 6), .inl (ct 1, 9, .inr (.inl Bf)))] sz) (QcW D [((am 0), .inr (8, [.int th, .ref (am 1), .ref (am 2), .ref (am 3), .ref (am 4), .ref (am 5), .long bu, .long he, .ref (am 6), .ref (am 7)])), ((am 1), .inl (ct 1, 334, .inr (.inl S))), ((am 6), .inl (ct 1, 9, .inr (.inl Bf)))] sz (fun v W1 => ∃ (s1 : Nat → Int64) (before1 : Nat → Int64), v = some (.int (nI (r_at (fS S Bf) (lN pl).toInt cnt))) ∧ W1 = [((am 0), .inr (8, [.int 0, .ref (am 1), .ref (am 2), .ref (am 3), .ref (am 4), .ref (am 5), .long bu, .long he, .ref (am 6), .ref (am 7)])), ((am 1), .inl (ct 1, 334, .inr (.inl s1))), ((am 6), .inl (ct 1, 9, .inr (.inl before1)))] ∧ (Ag (cnt + 1) (fS s1 before1) (r_ins (fS S Bf) (r_at (fS S Bf) (lN pl).toInt cnt) (r_new (lN kd).toInt (lN pl).toInt spI.toInt64.toInt (lN tg).toInt)) ∧ s1 210 = lN (cnt + 1) ∧ oth s1 S))) 0 0 (va_A [((am 0), .inr (8, [.int th, .ref (am 1), .ref (am 2), .ref (am 3), .ref (am 4), .ref (am 5), .long bu, .long he, .ref (am 6), .ref (am 7)])), ((am 1), .inl (ct 1, 334, .inr (.inl S))), ((am 6), .inl (ct 1, 9, .inr (.inl Bf)))] sz) := by
  refine enterW (by decide) (Nat.le_of_ble_eq_true rfl) ?_
  intro p e s m args below meth c ls A hx hb hr hml hown hts hlk hin hsz hAe hP hD hA hE hV hS hl
  have hl : lv_has ls 8 [(0, .ref (am 0)), (1, .int (nI kd)), (2, .int (nI pl)), (3, .int spI), (4, .int (nI tg))] := hl
  refine lv_iload_n hx hb d_M_front_0 rfl (lv_at hl 1 rfl) ?_
  refine lv_i2l (v := lN kd) hx hb d_M_front_1 (nI_l (by omega)) ?_
  refine lv_lconst (v := 0) hx hb d_M_front_2 (by decide) ?_
  refine lv_ldc2 (v := 2) hx hb hown (hts _ (List.mem_cons_of_mem _ x_976)) d_M_front_3 ?_
  refine cRS (As := [.long (lN kd), .long 0, .long 2]) (rest := []) K_M_in x_978 hx hb hml hown hts hE hV hS (c_M_in l D ct st (lN kd) 0 2) (fun k q h => by simp at h) rfl hl.1 rfl (Nat.le_of_ble_eq_true rfl) d_M_front_6 (Nat.le_of_ble_eq_true rfl) (Nat.le_of_ble_eq_true rfl) ⟨Nat.le_of_ble_eq_true rfl, Nat.le_of_ble_eq_true rfl⟩ ?_
  refine q_ifeq_b (tgt := 55) hx hb d_M_front_9 (by decide) (fun h_9 => absurd (w_inN (lo := 0) (hi := 2) (by omega) (by omega) (by omega)) h_9) (fun h_9 => ?_)
  refine lv_iload_n hx hb d_M_front_12 rfl (lv_at hl 2 rfl) ?_
  refine lv_i2l (v := lN pl) hx hb d_M_front_13 (nI_l (by omega)) ?_
  refine lv_lconst (v := 0) hx hb d_M_front_14 (by decide) ?_
  refine lv_ldc2 (v := 100000) hx hb hown (hts _ (List.mem_cons_of_mem _ x_929)) d_M_front_15 ?_
  refine cRS (As := [.long (lN pl), .long 0, .long 100000]) (rest := []) K_M_in x_978 hx hb hml hown hts hE hV hS (c_M_in l D ct st (lN pl) 0 100000) (fun k q h => by simp at h) rfl hl.1 rfl (Nat.le_of_ble_eq_true rfl) d_M_front_18 (Nat.le_of_ble_eq_true rfl) (Nat.le_of_ble_eq_true rfl) ⟨Nat.le_of_ble_eq_true rfl, Nat.le_of_ble_eq_true rfl⟩ ?_
  refine q_ifeq_b (tgt := 55) hx hb d_M_front_21 (by decide) (fun h_21 => absurd (w_inN (lo := 0) (hi := 100000) (by omega) (by omega) (by omega)) h_21) (fun h_21 => ?_)
  refine lv_iload_n hx hb d_M_front_24 rfl (lv_at hl 3 rfl) ?_
  refine lv_i2l hx hb d_M_front_25 rfl ?_
  refine lv_ldc2 (v := (-900)) hx hb hown (hts _ (List.mem_cons_of_mem _ x_1122)) d_M_front_26 ?_
  refine lv_ldc2 (v := 900) hx hb hown (hts _ (List.mem_cons_of_mem _ x_1123)) d_M_front_29 ?_
  refine cRS (As := [.long spI.toInt64, .long (-900), .long 900]) (rest := []) K_M_in x_978 hx hb hml hown hts hE hV hS (c_M_in l D ct st spI.toInt64 (-900) 900) (fun k q h => by simp at h) rfl hl.1 rfl (Nat.le_of_ble_eq_true rfl) d_M_front_32 (Nat.le_of_ble_eq_true rfl) (Nat.le_of_ble_eq_true rfl) ⟨Nat.le_of_ble_eq_true rfl, Nat.le_of_ble_eq_true rfl⟩ ?_
  refine q_ifeq_b (tgt := 55) hx hb d_M_front_35 (by decide) (fun h_35 => absurd h3 h_35) (fun h_35 => ?_)
  refine lv_iload hx hb d_M_front_38 (lv_at hl 4 rfl) ?_
  refine lv_i2l (v := lN tg) hx hb d_M_front_40 (nI_l (by omega)) ?_
  refine lv_lconst (v := 1) hx hb d_M_front_41 (by decide) ?_
  refine lv_ldc2 (v := 900) hx hb hown (hts _ (List.mem_cons_of_mem _ x_1123)) d_M_front_42 ?_
  refine cRS (As := [.long (lN tg), .long 1, .long 900]) (rest := []) K_M_in x_978 hx hb hml hown hts hE hV hS (c_M_in l D ct st (lN tg) 1 900) (fun k q h => by simp at h) rfl hl.1 rfl (Nat.le_of_ble_eq_true rfl) d_M_front_45 (Nat.le_of_ble_eq_true rfl) (Nat.le_of_ble_eq_true rfl) ⟨Nat.le_of_ble_eq_true rfl, Nat.le_of_ble_eq_true rfl⟩ ?_
  refine q_ifeq_b (tgt := 55) hx hb d_M_front_48 (by decide) (fun h_48 => absurd (w_inN (lo := 1) (hi := 900) (by omega) (by omega) (by omega)) h_48) (fun h_48 => ?_)
  refine lv_iconst (v := 1) hx hb d_M_front_51 (by decide) ?_
  refine lv_goto (tgt := 56) hx hb d_M_front_52 (by decide) ?_
  refine lv_istore (lv' := [(5, .int 1), (0, .ref (am 0)), (1, .int (nI kd)), (2, .int (nI pl)), (3, .int spI), (4, .int (nI tg))]) hx hb d_M_front_56 hl (by decide) rfl (fun ls hl => ?_)
  refine lv_aload_n hx hb d_M_front_58 rfl (lv_at hl 1 rfl) ?_
  refine lv_iload hx hb d_M_front_59 (lv_at hl 0 rfl) ?_
  refine lv_if_ne (tgt := 68) hx hb d_M_front_61 (by decide) (fun _ => ?_) (fun h => absurd h (by decide))
  refine lv_aload_n hx hb d_M_front_68 rfl (lv_at hl 1 rfl) ?_
  refine q_get 0 1 i_M rfl hx hb hts hown hE hP rfl (by decide) x_937 rfl d_M_front_69 ?_
  refine lv_sipush (v := 210) hx hb d_M_front_72 (by decide) ?_
  refine q_lald (k := 210) 1 hx hb hE hP rfl rfl (by omega) (by decide) d_M_front_75 ?_
  refine q_topl (v := lN cnt) (hcnt) ?_
  refine lv_ldc2 (v := 8) hx hb hown (hts _ (List.mem_cons_of_mem _ x_1124)) d_M_front_76 ?_
  refine W.lcmp hx hb d_M_front_79 ?_
  refine q_cmp_ne (tgt := 87) hx hb d_M_front_80 (by decide) (fun h_80 => ?_) (fun h_80 => absurd h_80 (fun z => by rw [show (8 : Int64) = lN 8 from rfl, lN_eq (by omega) (by omega)] at z; omega))
  refine lv_iconst (v := 0) hx hb d_M_front_87 (by decide) ?_
  refine q_put (ty := .int) 0 0 (ws1 := [((am 0), .inr (8, [.int 0, .ref (am 1), .ref (am 2), .ref (am 3), .ref (am 4), .ref (am 5), .long bu, .long he, .ref (am 6), .ref (am 7)])), ((am 1), .inl (ct 1, 334, .inr (.inl S))), ((am 6), .inl (ct 1, 9, .inr (.inl Bf)))]) t_M i_M t_M_ok n_M rfl hx hb hts hown hE hP hD hS rfl (by decide) x_936 rfl (by decide +kernel) (rfl) rfl (Nat.le_of_ble_eq_true rfl) rfl d_M_front_88 (fun H locs hP hD hS => ?_)
  refine lv_aload_n hx hb d_M_front_91 rfl (lv_at hl 1 rfl) ?_
  refine q_get 0 0 i_M rfl hx hb hts hown hE hP rfl (by decide) x_936 rfl d_M_front_92 ?_
  refine lv_if_le (tgt := 100) hx hb d_M_front_95 (by decide) (fun _ => ?_) (fun h => absurd h (by decide))
  refine lv_iconst (v := 0) hx hb d_M_front_100 (by decide) ?_
  refine q_topi (v := nI (r_at (fS S Bf) (lN pl).toInt 0)) (rfl) ?_
  refine lv_istore (lv' := [(6, .int (nI (r_at (fS S Bf) (lN pl).toInt 0))), (5, .int 1), (0, .ref (am 0)), (1, .int (nI kd)), (2, .int (nI pl)), (3, .int spI), (4, .int (nI tg))]) hx hb d_M_front_101 hl (by decide) rfl (fun ls hl => ?_)
  refine lv_iconst (v := 0) hx hb d_M_front_103 (by decide) ?_
  refine lv_istore (lv' := [(7, .int 0), (6, .int (nI (r_at (fS S Bf) (lN pl).toInt 0))), (5, .int 1), (0, .ref (am 0)), (1, .int (nI kd)), (2, .int (nI pl)), (3, .int spI), (4, .int (nI tg))]) hx hb d_M_front_104 hl (by decide) rfl (fun ls hl => ?_)
  have loop_106 : ∀ (n9 : Nat) (i : Nat) (hi : i ≤ cnt) (hn9 : cnt - i < n9) (H : Heap) (locs : List Loc) (ls : Array Slot), va_P D classes [((am 0), .inr (8, [.int 0, .ref (am 1), .ref (am 2), .ref (am 3), .ref (am 4), .ref (am 5), .long bu, .long he, .ref (am 6), .ref (am 7)])), ((am 1), .inl (ct 1, 334, .inr (.inl S))), ((am 6), .inl (ct 1, 9, .inr (.inl Bf)))] H → va_D A [((am 0), .inr (8, [.int 0, .ref (am 1), .ref (am 2), .ref (am 3), .ref (am 4), .ref (am 5), .long bu, .long he, .ref (am 6), .ref (am 7)])), ((am 1), .inl (ct 1, 334, .inr (.inl S))), ((am 6), .inl (ct 1, 9, .inr (.inl Bf)))] → va_S A s.heap H locs → lv_has ls 8 [(0, .ref (am 0)), (1, .int (nI kd)), (2, .int (nI pl)), (3, .int spI), (4, .int (nI tg)), (5, .int 1), (6, .int (nI (r_at (fS S Bf) (lN pl).toInt i))), (7, .int (nI i))] → W p l e (rmW 2 0 0 44) s m args below meth c H locs (0) (0) (MQ below (QcW D [((am 0), .inr (8, [.int th, .ref (am 1), .ref (am 2), .ref (am 3), .ref (am 4), .ref (am 5), .long bu, .long he, .ref (am 6), .ref (am 7)])), ((am 1), .inl (ct 1, 334, .inr (.inl S))), ((am 6), .inl (ct 1, 9, .inr (.inl Bf)))] sz (fun v W1 => ∃ (s1 : Nat → Int64) (before1 : Nat → Int64), v = some (.int (nI (r_at (fS S Bf) (lN pl).toInt cnt))) ∧ W1 = [((am 0), .inr (8, [.int 0, .ref (am 1), .ref (am 2), .ref (am 3), .ref (am 4), .ref (am 5), .long bu, .long he, .ref (am 6), .ref (am 7)])), ((am 1), .inl (ct 1, 334, .inr (.inl s1))), ((am 6), .inl (ct 1, 9, .inr (.inl before1)))] ∧ (Ag (cnt + 1) (fS s1 before1) (r_ins (fS S Bf) (r_at (fS S Bf) (lN pl).toInt cnt) (r_new (lN kd).toInt (lN pl).toInt spI.toInt64.toInt (lN tg).toInt)) ∧ s1 210 = lN (cnt + 1) ∧ oth s1 S))) args s 0 0 A) (F0 m 106 ls []) := by
    intro n9
    induction n9 with
    | zero => intro i hi hn9 H locs ls hP hD hS hl; exact absurd hn9 (Nat.not_lt_zero _)
    | succ n9 ih_106 =>
      intro i hi hn9 H locs ls hP hD hS hl
      have hrl := r_at_le (fS S Bf) (lN pl).toInt i
      refine lv_iload hx hb d_M_front_106 (lv_at hl 7 rfl) ?_
      refine lv_i2l (v := lN i) hx hb d_M_front_108 (nI_l (by omega)) ?_
      refine lv_aload_n hx hb d_M_front_109 rfl (lv_at hl 0 rfl) ?_
      refine q_get 0 1 i_M rfl hx hb hts hown hE hP rfl (by decide) x_937 rfl d_M_front_110 ?_
      refine lv_sipush (v := 210) hx hb d_M_front_113 (by decide) ?_
      refine q_lald (k := 210) 1 hx hb hE hP rfl rfl (by omega) (by decide) d_M_front_116 ?_
      refine q_topl (v := lN cnt) (hcnt) ?_
      refine W.lcmp hx hb d_M_front_117 ?_
      refine q_cmp_ge (tgt := 155) hx hb d_M_front_118 (by decide) (fun h_118 => ?_) (fun h_118 => ?_)
      · have hic : i = cnt := by rw [lN_le (by omega) (by omega)] at h_118; omega
        subst hic
        refine lv_aload_n hx hb d_M_front_155 rfl (lv_at hl 0 rfl) ?_
        refine lv_iload hx hb d_M_front_156 (lv_at hl 6 rfl) ?_
        refine cWV (As := [.int (nI (r_at (fS S Bf) (lN pl).toInt i))]) (rest := []) (q9 := 0) (ci := 8) K_M_opens x_1125 hx hb hml hown hts hE hV hS (c_M_opens l D ct st am 0 bu he S Bf i (r_at (fS S Bf) (lN pl).toInt i) (hcnt) (hc7) (hrl) _) hP hD hA [0, 1, 2] [] (wr := []) rfl rfl (by decide) (by decide) (by decide) rfl hP rfl rfl hl.1 rfl (Nat.le_of_ble_eq_true rfl) d_M_front_158 (Nat.le_of_ble_eq_true rfl) (Nat.le_of_ble_eq_true rfl) ⟨Nat.le_of_ble_eq_true rfl, Nat.le_of_ble_eq_true rfl⟩ (fun v W1 H locs hpost hP hD hS => ?_)
        obtain ⟨s1_1, before1_1, rfl, rfl, hq_158⟩ := hpost
        have hP : va_P D classes [((am 0), .inr (8, [.int 0, .ref (am 1), .ref (am 2), .ref (am 3), .ref (am 4), .ref (am 5), .long bu, .long he, .ref (am 6), .ref (am 7)])), ((am 1), .inl (ct 1, 334, .inr (.inl s1_1))), ((am 6), .inl (ct 1, 9, .inr (.inl before1_1)))] H := hP
        have hD : va_D A [((am 0), .inr (8, [.int 0, .ref (am 1), .ref (am 2), .ref (am 3), .ref (am 4), .ref (am 5), .long bu, .long he, .ref (am 6), .ref (am 7)])), ((am 1), .inl (ct 1, 334, .inr (.inl s1_1))), ((am 6), .inl (ct 1, 9, .inr (.inl before1_1)))] := hD
        refine lv_aload_n hx hb d_M_front_161 rfl (lv_at hl 0 rfl) ?_
        refine lv_iload hx hb d_M_front_162 (lv_at hl 6 rfl) ?_
        refine lv_iload_n hx hb d_M_front_164 rfl (lv_at hl 1 rfl) ?_
        refine lv_i2l (v := lN kd) hx hb d_M_front_165 (nI_l (by omega)) ?_
        refine lv_iload_n hx hb d_M_front_166 rfl (lv_at hl 2 rfl) ?_
        refine lv_i2l (v := lN pl) hx hb d_M_front_167 (nI_l (by omega)) ?_
        refine lv_iload_n hx hb d_M_front_168 rfl (lv_at hl 3 rfl) ?_
        refine lv_i2l hx hb d_M_front_169 rfl ?_
        refine lv_iload hx hb d_M_front_170 (lv_at hl 4 rfl) ?_
        refine lv_i2l (v := lN tg) hx hb d_M_front_172 (nI_l (by omega)) ?_
        refine cWV (As := [.int (nI (r_at (fS S Bf) (lN pl).toInt i)), .long (lN kd), .long (lN pl), .long spI.toInt64, .long (lN tg)]) (rest := []) (q9 := 0) (ci := 8) K_M_sets x_1133 hx hb hml hown hts hE hV hS (c_M_sets l D ct st am 0 bu he s1_1 before1_1 (r_at (fS S Bf) (lN pl).toInt i) (lN kd) (lN pl) spI.toInt64 (lN tg) (by omega) _) hP hD hA [0, 1, 2] [] (wr := []) rfl rfl (by decide) (by decide) (by decide) rfl hP rfl rfl hl.1 rfl (Nat.le_of_ble_eq_true rfl) d_M_front_173 (Nat.le_of_ble_eq_true rfl) (Nat.le_of_ble_eq_true rfl) ⟨Nat.le_of_ble_eq_true rfl, Nat.le_of_ble_eq_true rfl⟩ (fun v W1 H locs hpost hP hD hS => ?_)
        obtain ⟨s1_2, before1_2, rfl, rfl, hq_173⟩ := hpost
        have hP : va_P D classes [((am 0), .inr (8, [.int 0, .ref (am 1), .ref (am 2), .ref (am 3), .ref (am 4), .ref (am 5), .long bu, .long he, .ref (am 6), .ref (am 7)])), ((am 1), .inl (ct 1, 334, .inr (.inl s1_2))), ((am 6), .inl (ct 1, 9, .inr (.inl before1_2)))] H := hP
        have hD : va_D A [((am 0), .inr (8, [.int 0, .ref (am 1), .ref (am 2), .ref (am 3), .ref (am 4), .ref (am 5), .long bu, .long he, .ref (am 6), .ref (am 7)])), ((am 1), .inl (ct 1, 334, .inr (.inl s1_2))), ((am 6), .inl (ct 1, 9, .inr (.inl before1_2)))] := hD
        refine lv_iload hx hb d_M_front_176 (lv_at hl 6 rfl) ?_
        exact rW_i hx hb hr hlk hAe hS hP hD (Nat.le_of_ble_eq_true rfl) (Nat.le_of_ble_eq_true rfl) d_M_front_178 ⟨s1_2, before1_2, rfl, rfl, ⟨ins_row hrl hc7 hq_158.1 hq_173.1, hq_173.2.1.trans hq_158.2.1, hq_173.2.2.trans hq_158.2.2⟩⟩
      · have hic : i < cnt := by rw [lN_le (by omega) (by omega)] at h_118; omega
        refine lv_aload_n hx hb d_M_front_121 rfl (lv_at hl 0 rfl) ?_
        refine q_get 0 1 i_M rfl hx hb hts hown hE hP rfl (by decide) x_937 rfl d_M_front_122 ?_
        refine lv_sipush (v := 219) hx hb d_M_front_125 (by decide) ?_
        refine lv_iload hx hb d_M_front_128 (lv_at hl 7 rfl) ?_
        refine q_iadd (v := nI (219 + i)) hx hb d_M_front_130 (nI_add 219 i) ?_
        refine q_lald (k := 219 + i) 1 hx hb hE hP rfl rfl (by omega) (by decide) d_M_front_131 ?_
        refine lv_iload_n hx hb d_M_front_132 rfl (lv_at hl 2 rfl) ?_
        refine lv_i2l (v := lN pl) hx hb d_M_front_133 (nI_l (by omega)) ?_
        refine W.lcmp hx hb d_M_front_134 ?_
        refine q_cmp_gt (tgt := 145) hx hb d_M_front_135 (by decide) (fun h_135 => ?_) (fun h_135 => ?_)
        · refine lv_iload hx hb d_M_front_145 (lv_at hl 6 rfl) ?_
          refine q_topi (v := nI (r_at (fS S Bf) (lN pl).toInt (i + 1))) (congrArg nI (rat0 (fun z => absurd h_135 (Int64.not_lt.mpr (Int64.le_iff_toInt_le.mpr z))))) ?_
          refine lv_istore (lv' := [(6, .int (nI (r_at (fS S Bf) (lN pl).toInt (i + 1)))), (0, .ref (am 0)), (1, .int (nI kd)), (2, .int (nI pl)), (3, .int spI), (4, .int (nI tg)), (5, .int 1), (7, .int (nI i))]) hx hb d_M_front_147 hl (by decide) rfl (fun ls hl => ?_)
          refine lv_iinc (v := (nI (i + 1))) (lv' := [(7, .int (nI (i + 1))), (6, .int (nI (r_at (fS S Bf) (lN pl).toInt (i + 1)))), (0, .ref (am 0)), (1, .int (nI kd)), (2, .int (nI pl)), (3, .int spI), (4, .int (nI tg)), (5, .int 1)]) hx hb d_M_front_149 hl (k := 7) rfl (nI_1 _) (by decide) rfl (fun ls hl => ?_)
          refine lv_goto (tgt := 106) hx hb d_M_front_152 (by decide) ?_
          exact ih_106 (i + 1) (by omega) (by omega) _ _ _ hP hD hS (lv_sub hl [2, 3, 4, 5, 6, 7, 1, 0] rfl)
        · refine lv_iload hx hb d_M_front_138 (lv_at hl 7 rfl) ?_
          refine lv_iconst (v := 1) hx hb d_M_front_140 (by decide) ?_
          refine q_iadd (v := nI (i + 1)) hx hb d_M_front_141 (nI_add i 1) ?_
          refine q_topi (v := nI (r_at (fS S Bf) (lN pl).toInt (i + 1))) (congrArg nI (rat1 (Int64.le_iff_toInt_le.mp (Int64.not_lt.mp h_135)))) ?_
          refine lv_goto (tgt := 147) hx hb d_M_front_142 (by decide) ?_
          refine lv_istore (lv' := [(6, .int (nI (r_at (fS S Bf) (lN pl).toInt (i + 1)))), (0, .ref (am 0)), (1, .int (nI kd)), (2, .int (nI pl)), (3, .int spI), (4, .int (nI tg)), (5, .int 1), (7, .int (nI i))]) hx hb d_M_front_147 hl (by decide) rfl (fun ls hl => ?_)
          refine lv_iinc (v := (nI (i + 1))) (lv' := [(7, .int (nI (i + 1))), (6, .int (nI (r_at (fS S Bf) (lN pl).toInt (i + 1)))), (0, .ref (am 0)), (1, .int (nI kd)), (2, .int (nI pl)), (3, .int spI), (4, .int (nI tg)), (5, .int 1)]) hx hb d_M_front_149 hl (k := 7) rfl (nI_1 _) (by decide) rfl (fun ls hl => ?_)
          refine lv_goto (tgt := 106) hx hb d_M_front_152 (by decide) ?_
          exact ih_106 (i + 1) (by omega) (by omega) _ _ _ hP hD hS (lv_sub hl [2, 3, 4, 5, 6, 7, 1, 0] rfl)
  exact loop_106 _ 0 (by omega) (Nat.lt_succ_self _) _ _ _ hP hD hS (lv_sub hl [3, 4, 5, 6, 7, 2, 1, 0] rfl)
set_option maxHeartbeats 4000000 in
set_option maxRecDepth 100000 in
theorem c_M_front_b1 (l : Launch) (D : va_G) (ct : Nat → ClassId) (st : Nat → Nat) (am : Nat → Nat) (th : Int32) (bu : Int64) (he : Int64) (S : Nat → Int64) (a0 : Int32) (a1 : Int32) (a2 : Int32) (a3 : Int32) (hb0 : ¬ (w_in a0.toInt64 0 2 ∧ w_in a1.toInt64 0 100000 ∧ w_in a2.toInt64 (-900) 900 ∧ w_in a3.toInt64 1 900)) (sz : Nat) : Met l y_M_front (wsy y_M_front b_M_front 8 (some .int)) (rmW 1 0 0 25) (PcW D ct st [.ref (am 0), .int a0, .int a1, .int a2, .int a3] [((am 0), .inr (8, [.int th, .ref (am 1), .ref (am 2), .ref (am 3), .ref (am 4), .ref (am 5), .long bu, .long he, .ref (am 6), .ref (am 7)])), ((am 1), .inl (ct 1, 334, .inr (.inl S)))] sz) (QcW D [((am 0), .inr (8, [.int th, .ref (am 1), .ref (am 2), .ref (am 3), .ref (am 4), .ref (am 5), .long bu, .long he, .ref (am 6), .ref (am 7)])), ((am 1), .inl (ct 1, 334, .inr (.inl S)))] sz (fun v W1 => v = some (.int 0) ∧ W1 = [((am 0), .inr (8, [.int 1, .ref (am 1), .ref (am 2), .ref (am 3), .ref (am 4), .ref (am 5), .long bu, .long he, .ref (am 6), .ref (am 7)])), ((am 1), .inl (ct 1, 334, .inr (.inl S)))] ∧ (True))) 0 0 (va_A [((am 0), .inr (8, [.int th, .ref (am 1), .ref (am 2), .ref (am 3), .ref (am 4), .ref (am 5), .long bu, .long he, .ref (am 6), .ref (am 7)])), ((am 1), .inl (ct 1, 334, .inr (.inl S)))] sz) := by
  refine enterW (by decide) (Nat.le_of_ble_eq_true rfl) ?_
  intro p e s m args below meth c ls A hx hb hr hml hown hts hlk hin hsz hAe hP hD hA hE hV hS hl
  have hl : lv_has ls 8 [(0, .ref (am 0)), (1, .int a0), (2, .int a1), (3, .int a2), (4, .int a3)] := hl
  refine lv_iload_n hx hb d_M_front_0 rfl (lv_at hl 1 rfl) ?_
  refine lv_i2l hx hb d_M_front_1 rfl ?_
  refine lv_lconst (v := 0) hx hb d_M_front_2 (by decide) ?_
  refine lv_ldc2 (v := 2) hx hb hown (hts _ (List.mem_cons_of_mem _ x_976)) d_M_front_3 ?_
  refine cRS (As := [.long a0.toInt64, .long 0, .long 2]) (rest := []) K_M_in x_978 hx hb hml hown hts hE hV hS (c_M_in l D ct st a0.toInt64 0 2) (fun k q h => by simp at h) rfl hl.1 rfl (Nat.le_of_ble_eq_true rfl) d_M_front_6 (Nat.le_of_ble_eq_true rfl) (Nat.le_of_ble_eq_true rfl) ⟨Nat.le_of_ble_eq_true rfl, Nat.le_of_ble_eq_true rfl⟩ ?_
  refine q_ifeq_b (tgt := 55) hx hb d_M_front_9 (by decide) (fun h_9 => ?_) (fun h_9 => ?_)
  · refine lv_iconst (v := 0) hx hb d_M_front_55 (by decide) ?_
    refine lv_istore (lv' := [(5, .int 0), (0, .ref (am 0)), (1, .int a0), (2, .int a1), (3, .int a2), (4, .int a3)]) hx hb d_M_front_56 hl (by decide) rfl (fun ls hl => ?_)
    refine lv_aload_n hx hb d_M_front_58 rfl (lv_at hl 1 rfl) ?_
    refine lv_iload hx hb d_M_front_59 (lv_at hl 0 rfl) ?_
    refine lv_if_ne (tgt := 68) hx hb d_M_front_61 (by decide) (fun h => absurd h (by decide)) (fun _ => ?_)
    refine lv_iconst (v := 1) hx hb d_M_front_64 (by decide) ?_
    refine lv_goto (tgt := 88) hx hb d_M_front_65 (by decide) ?_
    refine q_put (ty := .int) 0 0 (ws1 := [((am 0), .inr (8, [.int 1, .ref (am 1), .ref (am 2), .ref (am 3), .ref (am 4), .ref (am 5), .long bu, .long he, .ref (am 6), .ref (am 7)])), ((am 1), .inl (ct 1, 334, .inr (.inl S)))]) t_M i_M t_M_ok n_M rfl hx hb hts hown hE hP hD hS rfl (by decide) x_936 rfl (by decide +kernel) (rfl) rfl (Nat.le_of_ble_eq_true rfl) rfl d_M_front_88 (fun H locs hP hD hS => ?_)
    refine lv_aload_n hx hb d_M_front_91 rfl (lv_at hl 1 rfl) ?_
    refine q_get 0 0 i_M rfl hx hb hts hown hE hP rfl (by decide) x_936 rfl d_M_front_92 ?_
    refine lv_if_le (tgt := 100) hx hb d_M_front_95 (by decide) (fun h => absurd h (by decide)) (fun _ => ?_)
    refine lv_iconst (v := 0) hx hb d_M_front_98 (by decide) ?_
    exact rW_i hx hb hr hlk hAe hS hP hD (Nat.le_of_ble_eq_true rfl) (Nat.le_of_ble_eq_true rfl) d_M_front_99 ⟨rfl, rfl, trivial⟩
  · refine lv_iload_n hx hb d_M_front_12 rfl (lv_at hl 2 rfl) ?_
    refine lv_i2l hx hb d_M_front_13 rfl ?_
    refine lv_lconst (v := 0) hx hb d_M_front_14 (by decide) ?_
    refine lv_ldc2 (v := 100000) hx hb hown (hts _ (List.mem_cons_of_mem _ x_929)) d_M_front_15 ?_
    refine cRS (As := [.long a1.toInt64, .long 0, .long 100000]) (rest := []) K_M_in x_978 hx hb hml hown hts hE hV hS (c_M_in l D ct st a1.toInt64 0 100000) (fun k q h => by simp at h) rfl hl.1 rfl (Nat.le_of_ble_eq_true rfl) d_M_front_18 (Nat.le_of_ble_eq_true rfl) (Nat.le_of_ble_eq_true rfl) ⟨Nat.le_of_ble_eq_true rfl, Nat.le_of_ble_eq_true rfl⟩ ?_
    refine q_ifeq_b (tgt := 55) hx hb d_M_front_21 (by decide) (fun h_21 => ?_) (fun h_21 => ?_)
    · refine lv_iconst (v := 0) hx hb d_M_front_55 (by decide) ?_
      refine lv_istore (lv' := [(5, .int 0), (0, .ref (am 0)), (1, .int a0), (2, .int a1), (3, .int a2), (4, .int a3)]) hx hb d_M_front_56 hl (by decide) rfl (fun ls hl => ?_)
      refine lv_aload_n hx hb d_M_front_58 rfl (lv_at hl 1 rfl) ?_
      refine lv_iload hx hb d_M_front_59 (lv_at hl 0 rfl) ?_
      refine lv_if_ne (tgt := 68) hx hb d_M_front_61 (by decide) (fun h => absurd h (by decide)) (fun _ => ?_)
      refine lv_iconst (v := 1) hx hb d_M_front_64 (by decide) ?_
      refine lv_goto (tgt := 88) hx hb d_M_front_65 (by decide) ?_
      refine q_put (ty := .int) 0 0 (ws1 := [((am 0), .inr (8, [.int 1, .ref (am 1), .ref (am 2), .ref (am 3), .ref (am 4), .ref (am 5), .long bu, .long he, .ref (am 6), .ref (am 7)])), ((am 1), .inl (ct 1, 334, .inr (.inl S)))]) t_M i_M t_M_ok n_M rfl hx hb hts hown hE hP hD hS rfl (by decide) x_936 rfl (by decide +kernel) (rfl) rfl (Nat.le_of_ble_eq_true rfl) rfl d_M_front_88 (fun H locs hP hD hS => ?_)
      refine lv_aload_n hx hb d_M_front_91 rfl (lv_at hl 1 rfl) ?_
      refine q_get 0 0 i_M rfl hx hb hts hown hE hP rfl (by decide) x_936 rfl d_M_front_92 ?_
      refine lv_if_le (tgt := 100) hx hb d_M_front_95 (by decide) (fun h => absurd h (by decide)) (fun _ => ?_)
      refine lv_iconst (v := 0) hx hb d_M_front_98 (by decide) ?_
      exact rW_i hx hb hr hlk hAe hS hP hD (Nat.le_of_ble_eq_true rfl) (Nat.le_of_ble_eq_true rfl) d_M_front_99 ⟨rfl, rfl, trivial⟩
    · refine lv_iload_n hx hb d_M_front_24 rfl (lv_at hl 3 rfl) ?_
      refine lv_i2l hx hb d_M_front_25 rfl ?_
      refine lv_ldc2 (v := (-900)) hx hb hown (hts _ (List.mem_cons_of_mem _ x_1122)) d_M_front_26 ?_
      refine lv_ldc2 (v := 900) hx hb hown (hts _ (List.mem_cons_of_mem _ x_1123)) d_M_front_29 ?_
      refine cRS (As := [.long a2.toInt64, .long (-900), .long 900]) (rest := []) K_M_in x_978 hx hb hml hown hts hE hV hS (c_M_in l D ct st a2.toInt64 (-900) 900) (fun k q h => by simp at h) rfl hl.1 rfl (Nat.le_of_ble_eq_true rfl) d_M_front_32 (Nat.le_of_ble_eq_true rfl) (Nat.le_of_ble_eq_true rfl) ⟨Nat.le_of_ble_eq_true rfl, Nat.le_of_ble_eq_true rfl⟩ ?_
      refine q_ifeq_b (tgt := 55) hx hb d_M_front_35 (by decide) (fun h_35 => ?_) (fun h_35 => ?_)
      · refine lv_iconst (v := 0) hx hb d_M_front_55 (by decide) ?_
        refine lv_istore (lv' := [(5, .int 0), (0, .ref (am 0)), (1, .int a0), (2, .int a1), (3, .int a2), (4, .int a3)]) hx hb d_M_front_56 hl (by decide) rfl (fun ls hl => ?_)
        refine lv_aload_n hx hb d_M_front_58 rfl (lv_at hl 1 rfl) ?_
        refine lv_iload hx hb d_M_front_59 (lv_at hl 0 rfl) ?_
        refine lv_if_ne (tgt := 68) hx hb d_M_front_61 (by decide) (fun h => absurd h (by decide)) (fun _ => ?_)
        refine lv_iconst (v := 1) hx hb d_M_front_64 (by decide) ?_
        refine lv_goto (tgt := 88) hx hb d_M_front_65 (by decide) ?_
        refine q_put (ty := .int) 0 0 (ws1 := [((am 0), .inr (8, [.int 1, .ref (am 1), .ref (am 2), .ref (am 3), .ref (am 4), .ref (am 5), .long bu, .long he, .ref (am 6), .ref (am 7)])), ((am 1), .inl (ct 1, 334, .inr (.inl S)))]) t_M i_M t_M_ok n_M rfl hx hb hts hown hE hP hD hS rfl (by decide) x_936 rfl (by decide +kernel) (rfl) rfl (Nat.le_of_ble_eq_true rfl) rfl d_M_front_88 (fun H locs hP hD hS => ?_)
        refine lv_aload_n hx hb d_M_front_91 rfl (lv_at hl 1 rfl) ?_
        refine q_get 0 0 i_M rfl hx hb hts hown hE hP rfl (by decide) x_936 rfl d_M_front_92 ?_
        refine lv_if_le (tgt := 100) hx hb d_M_front_95 (by decide) (fun h => absurd h (by decide)) (fun _ => ?_)
        refine lv_iconst (v := 0) hx hb d_M_front_98 (by decide) ?_
        exact rW_i hx hb hr hlk hAe hS hP hD (Nat.le_of_ble_eq_true rfl) (Nat.le_of_ble_eq_true rfl) d_M_front_99 ⟨rfl, rfl, trivial⟩
      · refine lv_iload hx hb d_M_front_38 (lv_at hl 4 rfl) ?_
        refine lv_i2l hx hb d_M_front_40 rfl ?_
        refine lv_lconst (v := 1) hx hb d_M_front_41 (by decide) ?_
        refine lv_ldc2 (v := 900) hx hb hown (hts _ (List.mem_cons_of_mem _ x_1123)) d_M_front_42 ?_
        refine cRS (As := [.long a3.toInt64, .long 1, .long 900]) (rest := []) K_M_in x_978 hx hb hml hown hts hE hV hS (c_M_in l D ct st a3.toInt64 1 900) (fun k q h => by simp at h) rfl hl.1 rfl (Nat.le_of_ble_eq_true rfl) d_M_front_45 (Nat.le_of_ble_eq_true rfl) (Nat.le_of_ble_eq_true rfl) ⟨Nat.le_of_ble_eq_true rfl, Nat.le_of_ble_eq_true rfl⟩ ?_
        refine q_ifeq_b (tgt := 55) hx hb d_M_front_48 (by decide) (fun h_48 => ?_) (fun h_48 => absurd ⟨h_9, h_21, h_35, h_48⟩ hb0)
        refine lv_iconst (v := 0) hx hb d_M_front_55 (by decide) ?_
        refine lv_istore (lv' := [(5, .int 0), (0, .ref (am 0)), (1, .int a0), (2, .int a1), (3, .int a2), (4, .int a3)]) hx hb d_M_front_56 hl (by decide) rfl (fun ls hl => ?_)
        refine lv_aload_n hx hb d_M_front_58 rfl (lv_at hl 1 rfl) ?_
        refine lv_iload hx hb d_M_front_59 (lv_at hl 0 rfl) ?_
        refine lv_if_ne (tgt := 68) hx hb d_M_front_61 (by decide) (fun h => absurd h (by decide)) (fun _ => ?_)
        refine lv_iconst (v := 1) hx hb d_M_front_64 (by decide) ?_
        refine lv_goto (tgt := 88) hx hb d_M_front_65 (by decide) ?_
        refine q_put (ty := .int) 0 0 (ws1 := [((am 0), .inr (8, [.int 1, .ref (am 1), .ref (am 2), .ref (am 3), .ref (am 4), .ref (am 5), .long bu, .long he, .ref (am 6), .ref (am 7)])), ((am 1), .inl (ct 1, 334, .inr (.inl S)))]) t_M i_M t_M_ok n_M rfl hx hb hts hown hE hP hD hS rfl (by decide) x_936 rfl (by decide +kernel) (rfl) rfl (Nat.le_of_ble_eq_true rfl) rfl d_M_front_88 (fun H locs hP hD hS => ?_)
        refine lv_aload_n hx hb d_M_front_91 rfl (lv_at hl 1 rfl) ?_
        refine q_get 0 0 i_M rfl hx hb hts hown hE hP rfl (by decide) x_936 rfl d_M_front_92 ?_
        refine lv_if_le (tgt := 100) hx hb d_M_front_95 (by decide) (fun h => absurd h (by decide)) (fun _ => ?_)
        refine lv_iconst (v := 0) hx hb d_M_front_98 (by decide) ?_
        exact rW_i hx hb hr hlk hAe hS hP hD (Nat.le_of_ble_eq_true rfl) (Nat.le_of_ble_eq_true rfl) d_M_front_99 ⟨rfl, rfl, trivial⟩
set_option maxHeartbeats 4000000 in
set_option maxRecDepth 100000 in
theorem c_M_front_b2 (l : Launch) (D : va_G) (ct : Nat → ClassId) (st : Nat → Nat) (am : Nat → Nat) (th : Int32) (bu : Int64) (he : Int64) (S : Nat → Int64) (a0 : Int32) (a1 : Int32) (a2 : Int32) (a3 : Int32) (hb0 : w_in a0.toInt64 0 2 ∧ w_in a1.toInt64 0 100000 ∧ w_in a2.toInt64 (-900) 900 ∧ w_in a3.toInt64 1 900) (hb1 : S 210 = 8) (sz : Nat) : Met l y_M_front (wsy y_M_front b_M_front 8 (some .int)) (rmW 1 0 0 25) (PcW D ct st [.ref (am 0), .int a0, .int a1, .int a2, .int a3] [((am 0), .inr (8, [.int th, .ref (am 1), .ref (am 2), .ref (am 3), .ref (am 4), .ref (am 5), .long bu, .long he, .ref (am 6), .ref (am 7)])), ((am 1), .inl (ct 1, 334, .inr (.inl S)))] sz) (QcW D [((am 0), .inr (8, [.int th, .ref (am 1), .ref (am 2), .ref (am 3), .ref (am 4), .ref (am 5), .long bu, .long he, .ref (am 6), .ref (am 7)])), ((am 1), .inl (ct 1, 334, .inr (.inl S)))] sz (fun v W1 => v = some (.int 0) ∧ W1 = [((am 0), .inr (8, [.int 2, .ref (am 1), .ref (am 2), .ref (am 3), .ref (am 4), .ref (am 5), .long bu, .long he, .ref (am 6), .ref (am 7)])), ((am 1), .inl (ct 1, 334, .inr (.inl S)))] ∧ (True))) 0 0 (va_A [((am 0), .inr (8, [.int th, .ref (am 1), .ref (am 2), .ref (am 3), .ref (am 4), .ref (am 5), .long bu, .long he, .ref (am 6), .ref (am 7)])), ((am 1), .inl (ct 1, 334, .inr (.inl S)))] sz) := by
  refine enterW (by decide) (Nat.le_of_ble_eq_true rfl) ?_
  intro p e s m args below meth c ls A hx hb hr hml hown hts hlk hin hsz hAe hP hD hA hE hV hS hl
  have hl : lv_has ls 8 [(0, .ref (am 0)), (1, .int a0), (2, .int a1), (3, .int a2), (4, .int a3)] := hl
  refine lv_iload_n hx hb d_M_front_0 rfl (lv_at hl 1 rfl) ?_
  refine lv_i2l hx hb d_M_front_1 rfl ?_
  refine lv_lconst (v := 0) hx hb d_M_front_2 (by decide) ?_
  refine lv_ldc2 (v := 2) hx hb hown (hts _ (List.mem_cons_of_mem _ x_976)) d_M_front_3 ?_
  refine cRS (As := [.long a0.toInt64, .long 0, .long 2]) (rest := []) K_M_in x_978 hx hb hml hown hts hE hV hS (c_M_in l D ct st a0.toInt64 0 2) (fun k q h => by simp at h) rfl hl.1 rfl (Nat.le_of_ble_eq_true rfl) d_M_front_6 (Nat.le_of_ble_eq_true rfl) (Nat.le_of_ble_eq_true rfl) ⟨Nat.le_of_ble_eq_true rfl, Nat.le_of_ble_eq_true rfl⟩ ?_
  refine q_ifeq_b (tgt := 55) hx hb d_M_front_9 (by decide) (fun h_9 => absurd hb0.1 h_9) (fun h_9 => ?_)
  refine lv_iload_n hx hb d_M_front_12 rfl (lv_at hl 2 rfl) ?_
  refine lv_i2l hx hb d_M_front_13 rfl ?_
  refine lv_lconst (v := 0) hx hb d_M_front_14 (by decide) ?_
  refine lv_ldc2 (v := 100000) hx hb hown (hts _ (List.mem_cons_of_mem _ x_929)) d_M_front_15 ?_
  refine cRS (As := [.long a1.toInt64, .long 0, .long 100000]) (rest := []) K_M_in x_978 hx hb hml hown hts hE hV hS (c_M_in l D ct st a1.toInt64 0 100000) (fun k q h => by simp at h) rfl hl.1 rfl (Nat.le_of_ble_eq_true rfl) d_M_front_18 (Nat.le_of_ble_eq_true rfl) (Nat.le_of_ble_eq_true rfl) ⟨Nat.le_of_ble_eq_true rfl, Nat.le_of_ble_eq_true rfl⟩ ?_
  refine q_ifeq_b (tgt := 55) hx hb d_M_front_21 (by decide) (fun h_21 => absurd hb0.2.1 h_21) (fun h_21 => ?_)
  refine lv_iload_n hx hb d_M_front_24 rfl (lv_at hl 3 rfl) ?_
  refine lv_i2l hx hb d_M_front_25 rfl ?_
  refine lv_ldc2 (v := (-900)) hx hb hown (hts _ (List.mem_cons_of_mem _ x_1122)) d_M_front_26 ?_
  refine lv_ldc2 (v := 900) hx hb hown (hts _ (List.mem_cons_of_mem _ x_1123)) d_M_front_29 ?_
  refine cRS (As := [.long a2.toInt64, .long (-900), .long 900]) (rest := []) K_M_in x_978 hx hb hml hown hts hE hV hS (c_M_in l D ct st a2.toInt64 (-900) 900) (fun k q h => by simp at h) rfl hl.1 rfl (Nat.le_of_ble_eq_true rfl) d_M_front_32 (Nat.le_of_ble_eq_true rfl) (Nat.le_of_ble_eq_true rfl) ⟨Nat.le_of_ble_eq_true rfl, Nat.le_of_ble_eq_true rfl⟩ ?_
  refine q_ifeq_b (tgt := 55) hx hb d_M_front_35 (by decide) (fun h_35 => absurd hb0.2.2.1 h_35) (fun h_35 => ?_)
  refine lv_iload hx hb d_M_front_38 (lv_at hl 4 rfl) ?_
  refine lv_i2l hx hb d_M_front_40 rfl ?_
  refine lv_lconst (v := 1) hx hb d_M_front_41 (by decide) ?_
  refine lv_ldc2 (v := 900) hx hb hown (hts _ (List.mem_cons_of_mem _ x_1123)) d_M_front_42 ?_
  refine cRS (As := [.long a3.toInt64, .long 1, .long 900]) (rest := []) K_M_in x_978 hx hb hml hown hts hE hV hS (c_M_in l D ct st a3.toInt64 1 900) (fun k q h => by simp at h) rfl hl.1 rfl (Nat.le_of_ble_eq_true rfl) d_M_front_45 (Nat.le_of_ble_eq_true rfl) (Nat.le_of_ble_eq_true rfl) ⟨Nat.le_of_ble_eq_true rfl, Nat.le_of_ble_eq_true rfl⟩ ?_
  refine q_ifeq_b (tgt := 55) hx hb d_M_front_48 (by decide) (fun h_48 => absurd hb0.2.2.2 h_48) (fun h_48 => ?_)
  refine lv_iconst (v := 1) hx hb d_M_front_51 (by decide) ?_
  refine lv_goto (tgt := 56) hx hb d_M_front_52 (by decide) ?_
  refine lv_istore (lv' := [(5, .int 1), (0, .ref (am 0)), (1, .int a0), (2, .int a1), (3, .int a2), (4, .int a3)]) hx hb d_M_front_56 hl (by decide) rfl (fun ls hl => ?_)
  refine lv_aload_n hx hb d_M_front_58 rfl (lv_at hl 1 rfl) ?_
  refine lv_iload hx hb d_M_front_59 (lv_at hl 0 rfl) ?_
  refine lv_if_ne (tgt := 68) hx hb d_M_front_61 (by decide) (fun _ => ?_) (fun h => absurd h (by decide))
  refine lv_aload_n hx hb d_M_front_68 rfl (lv_at hl 1 rfl) ?_
  refine q_get 0 1 i_M rfl hx hb hts hown hE hP rfl (by decide) x_937 rfl d_M_front_69 ?_
  refine lv_sipush (v := 210) hx hb d_M_front_72 (by decide) ?_
  refine q_lald (k := 210) 1 hx hb hE hP rfl rfl (by omega) (by decide) d_M_front_75 ?_
  refine lv_ldc2 (v := 8) hx hb hown (hts _ (List.mem_cons_of_mem _ x_1124)) d_M_front_76 ?_
  refine W.lcmp hx hb d_M_front_79 ?_
  refine q_cmp_ne (tgt := 87) hx hb d_M_front_80 (by decide) (fun h_80 => absurd hb1 h_80) (fun h_80 => ?_)
  refine lv_iconst (v := 2) hx hb d_M_front_83 (by decide) ?_
  refine lv_goto (tgt := 88) hx hb d_M_front_84 (by decide) ?_
  refine q_put (ty := .int) 0 0 (ws1 := [((am 0), .inr (8, [.int 2, .ref (am 1), .ref (am 2), .ref (am 3), .ref (am 4), .ref (am 5), .long bu, .long he, .ref (am 6), .ref (am 7)])), ((am 1), .inl (ct 1, 334, .inr (.inl S)))]) t_M i_M t_M_ok n_M rfl hx hb hts hown hE hP hD hS rfl (by decide) x_936 rfl (by decide +kernel) (rfl) rfl (Nat.le_of_ble_eq_true rfl) rfl d_M_front_88 (fun H locs hP hD hS => ?_)
  refine lv_aload_n hx hb d_M_front_91 rfl (lv_at hl 1 rfl) ?_
  refine q_get 0 0 i_M rfl hx hb hts hown hE hP rfl (by decide) x_936 rfl d_M_front_92 ?_
  refine lv_if_le (tgt := 100) hx hb d_M_front_95 (by decide) (fun h => absurd h (by decide)) (fun _ => ?_)
  refine lv_iconst (v := 0) hx hb d_M_front_98 (by decide) ?_
  exact rW_i hx hb hr hlk hAe hS hP hD (Nat.le_of_ble_eq_true rfl) (Nat.le_of_ble_eq_true rfl) d_M_front_99 ⟨rfl, rfl, trivial⟩
set_option maxHeartbeats 4000000 in
set_option maxRecDepth 100000 in
theorem c_M_fronts (l : Launch) (D : va_G) (ct : Nat → ClassId) (st : Nat → Nat) (am : Nat → Nat) (th : Int32) (bu : Int64) (he : Int64) (S : Nat → Int64) (sz : Nat) : Met l y_M_fronts (wsy y_M_fronts b_M_fronts 1 (some .int)) (rmW 0 0 0 0) (PcW D ct st [.ref (am 0)] [((am 0), .inr (8, [.int th, .ref (am 1), .ref (am 2), .ref (am 3), .ref (am 4), .ref (am 5), .long bu, .long he, .ref (am 6), .ref (am 7)])), ((am 1), .inl (ct 1, 334, .inr (.inl S)))] sz) (QcW D [((am 0), .inr (8, [.int th, .ref (am 1), .ref (am 2), .ref (am 3), .ref (am 4), .ref (am 5), .long bu, .long he, .ref (am 6), .ref (am 7)])), ((am 1), .inl (ct 1, 334, .inr (.inl S)))] sz (fun v W1 => v = some (.int ((S 210).toInt32)) ∧ W1 = [((am 0), .inr (8, [.int 0, .ref (am 1), .ref (am 2), .ref (am 3), .ref (am 4), .ref (am 5), .long bu, .long he, .ref (am 6), .ref (am 7)])), ((am 1), .inl (ct 1, 334, .inr (.inl S)))] ∧ (True))) 0 0 (va_A [((am 0), .inr (8, [.int th, .ref (am 1), .ref (am 2), .ref (am 3), .ref (am 4), .ref (am 5), .long bu, .long he, .ref (am 6), .ref (am 7)])), ((am 1), .inl (ct 1, 334, .inr (.inl S)))] sz) := by
  refine enterW (by decide) (Nat.le_of_ble_eq_true rfl) ?_
  intro p e s m args below meth c ls A hx hb hr hml hown hts hlk hin hsz hAe hP hD hA hE hV hS hl
  have hl : lv_has ls 1 [(0, .ref (am 0))] := hl
  refine lv_aload_n hx hb d_M_fronts_0 rfl (lv_at hl 0 rfl) ?_
  refine lv_iconst (v := 0) hx hb d_M_fronts_1 (by decide) ?_
  refine q_put (ty := .int) 0 0 (ws1 := [((am 0), .inr (8, [.int 0, .ref (am 1), .ref (am 2), .ref (am 3), .ref (am 4), .ref (am 5), .long bu, .long he, .ref (am 6), .ref (am 7)])), ((am 1), .inl (ct 1, 334, .inr (.inl S)))]) t_M i_M t_M_ok n_M rfl hx hb hts hown hE hP hD hS rfl (by decide) x_936 rfl (by decide +kernel) (rfl) rfl (Nat.le_of_ble_eq_true rfl) rfl d_M_fronts_2 (fun H locs hP hD hS => ?_)
  refine lv_aload_n hx hb d_M_fronts_5 rfl (lv_at hl 0 rfl) ?_
  refine q_get 0 1 i_M rfl hx hb hts hown hE hP rfl (by decide) x_937 rfl d_M_fronts_6 ?_
  refine lv_sipush (v := 210) hx hb d_M_fronts_9 (by decide) ?_
  refine q_lald (k := 210) 1 hx hb hE hP rfl rfl (by omega) (by decide) d_M_fronts_12 ?_
  refine lv_l2i hx hb d_M_fronts_13 rfl ?_
  exact rW_i hx hb hr hlk hAe hS hP hD (Nat.le_of_ble_eq_true rfl) (Nat.le_of_ble_eq_true rfl) d_M_fronts_14 ⟨rfl, rfl, trivial⟩
set_option maxHeartbeats 4000000 in
set_option maxRecDepth 100000 in
theorem c_M_ofFront_0 (l : Launch) (D : va_G) (ct : Nat → ClassId) (st : Nat → Nat) (am : Nat → Nat) (th : Int32) (bu : Int64) (he : Int64) (S : Nat → Int64) (cnt : Nat) (k : Nat) (hcnt : S 210 = lN cnt) (hn8 : cnt ≤ 8) (hk : k < cnt) (sz : Nat) : Met l y_M_ofFront (wsy y_M_ofFront b_M_ofFront 3 (some .int)) (rmW 1 0 0 25) (PcW D ct st [.ref (am 0), .int (nI k), .int 0] [((am 0), .inr (8, [.int th, .ref (am 1), .ref (am 2), .ref (am 3), .ref (am 4), .ref (am 5), .long bu, .long he, .ref (am 6), .ref (am 7)])), ((am 1), .inl (ct 1, 334, .inr (.inl S)))] sz) (QcW D [((am 0), .inr (8, [.int th, .ref (am 1), .ref (am 2), .ref (am 3), .ref (am 4), .ref (am 5), .long bu, .long he, .ref (am 6), .ref (am 7)])), ((am 1), .inl (ct 1, 334, .inr (.inl S)))] sz (fun v W1 => v = some (.int ((S (211 + k)).toInt32)) ∧ W1 = [((am 0), .inr (8, [.int 0, .ref (am 1), .ref (am 2), .ref (am 3), .ref (am 4), .ref (am 5), .long bu, .long he, .ref (am 6), .ref (am 7)])), ((am 1), .inl (ct 1, 334, .inr (.inl S)))] ∧ (True))) 0 0 (va_A [((am 0), .inr (8, [.int th, .ref (am 1), .ref (am 2), .ref (am 3), .ref (am 4), .ref (am 5), .long bu, .long he, .ref (am 6), .ref (am 7)])), ((am 1), .inl (ct 1, 334, .inr (.inl S)))] sz) := by
  refine enterW (by decide) (Nat.le_of_ble_eq_true rfl) ?_
  intro p e s m args below meth c ls A hx hb hr hml hown hts hlk hin hsz hAe hP hD hA hE hV hS hl
  have hl : lv_has ls 3 [(0, .ref (am 0)), (1, .int (nI k)), (2, .int 0)] := hl
  refine lv_aload_n hx hb d_M_ofFront_0 rfl (lv_at hl 0 rfl) ?_
  refine lv_iload_n hx hb d_M_ofFront_1 rfl (lv_at hl 1 rfl) ?_
  refine lv_i2l (v := lN k) hx hb d_M_ofFront_2 (nI_l (by omega)) ?_
  refine lv_lconst (v := 0) hx hb d_M_ofFront_3 (by decide) ?_
  refine lv_aload_n hx hb d_M_ofFront_4 rfl (lv_at hl 0 rfl) ?_
  refine q_get 0 1 i_M rfl hx hb hts hown hE hP rfl (by decide) x_937 rfl d_M_ofFront_5 ?_
  refine lv_sipush (v := 210) hx hb d_M_ofFront_8 (by decide) ?_
  refine q_lald (k := 210) 1 hx hb hE hP rfl rfl (by omega) (by decide) d_M_ofFront_11 ?_
  refine lv_lconst (v := 1) hx hb d_M_ofFront_12 (by decide) ?_
  refine lv_lsub hx hb d_M_ofFront_13 ?_
  refine cRS (As := [.long (lN k), .long 0, .long ((S 210) - 1)]) (rest := [.ref (am 0)]) K_M_in x_978 hx hb hml hown hts hE hV hS (c_M_in l D ct st (lN k) 0 ((S 210) - 1)) (fun k q h => by simp at h) rfl hl.1 rfl (Nat.le_of_ble_eq_true rfl) d_M_ofFront_14 (Nat.le_of_ble_eq_true rfl) (Nat.le_of_ble_eq_true rfl) ⟨Nat.le_of_ble_eq_true rfl, Nat.le_of_ble_eq_true rfl⟩ ?_
  refine q_ifne_b (tgt := 24) hx hb d_M_ofFront_17 (by decide) (fun h_17 => ?_) (fun h_17 => absurd (by have z := cell_in hcnt hk (by omega); rw [nI_l (by omega)] at z; exact z) h_17)
  refine lv_iload_n hx hb d_M_ofFront_24 rfl (lv_at hl 2 rfl) ?_
  refine lv_i2l (v := 0) hx hb d_M_ofFront_25 (by decide) ?_
  refine lv_lconst (v := 0) hx hb d_M_ofFront_26 (by decide) ?_
  refine lv_ldc2 (v := 3) hx hb hown (hts _ (List.mem_cons_of_mem _ x_1045)) d_M_ofFront_27 ?_
  refine cRS (As := [.long 0, .long 0, .long 3]) (rest := [.ref (am 0)]) K_M_in x_978 hx hb hml hown hts hE hV hS (c_M_in l D ct st 0 0 3) (fun k q h => by simp at h) rfl hl.1 rfl (Nat.le_of_ble_eq_true rfl) d_M_ofFront_30 (Nat.le_of_ble_eq_true rfl) (Nat.le_of_ble_eq_true rfl) ⟨Nat.le_of_ble_eq_true rfl, Nat.le_of_ble_eq_true rfl⟩ ?_
  refine q_ifeq_b (tgt := 40) hx hb d_M_ofFront_33 (by decide) (fun h_33 => absurd (w_inN (a := 0) (lo := 0) (hi := 3) (by omega) (by omega) (by omega)) h_33) (fun h_33 => ?_)
  refine lv_iconst (v := 0) hx hb d_M_ofFront_36 (by decide) ?_
  refine lv_goto (tgt := 41) hx hb d_M_ofFront_37 (by decide) ?_
  refine q_put (ty := .int) 0 0 (ws1 := [((am 0), .inr (8, [.int 0, .ref (am 1), .ref (am 2), .ref (am 3), .ref (am 4), .ref (am 5), .long bu, .long he, .ref (am 6), .ref (am 7)])), ((am 1), .inl (ct 1, 334, .inr (.inl S)))]) t_M i_M t_M_ok n_M rfl hx hb hts hown hE hP hD hS rfl (by decide) x_936 rfl (by decide +kernel) (rfl) rfl (Nat.le_of_ble_eq_true rfl) rfl d_M_ofFront_41 (fun H locs hP hD hS => ?_)
  refine lv_aload_n hx hb d_M_ofFront_44 rfl (lv_at hl 0 rfl) ?_
  refine q_get 0 0 i_M rfl hx hb hts hown hE hP rfl (by decide) x_936 rfl d_M_ofFront_45 ?_
  refine lv_if_le (tgt := 55) hx hb d_M_ofFront_48 (by decide) (fun _ => ?_) (fun h => absurd h (by decide))
  refine lv_aload_n hx hb d_M_ofFront_55 rfl (lv_at hl 0 rfl) ?_
  refine q_get 0 1 i_M rfl hx hb hts hown hE hP rfl (by decide) x_937 rfl d_M_ofFront_56 ?_
  refine lv_sipush (v := 211) hx hb d_M_ofFront_59 (by decide) ?_
  refine lv_bipush (v := 8) hx hb d_M_ofFront_62 (by decide) ?_
  refine lv_iload_n hx hb d_M_ofFront_64 rfl (lv_at hl 2 rfl) ?_
  refine q_imul (v := 0) hx hb d_M_ofFront_65 (by decide) ?_
  refine q_iadd (v := 211) hx hb d_M_ofFront_66 (by decide) ?_
  refine lv_iload_n hx hb d_M_ofFront_67 rfl (lv_at hl 1 rfl) ?_
  refine q_iadd (v := nI (211 + k)) hx hb d_M_ofFront_68 (nI_add 211 k) ?_
  refine q_lald (k := 211 + k) 1 hx hb hE hP rfl rfl (by omega) (by decide) d_M_ofFront_69 ?_
  refine lv_l2i hx hb d_M_ofFront_70 rfl ?_
  exact rW_i hx hb hr hlk hAe hS hP hD (Nat.le_of_ble_eq_true rfl) (Nat.le_of_ble_eq_true rfl) d_M_ofFront_71 ⟨rfl, rfl, trivial⟩
set_option maxHeartbeats 4000000 in
set_option maxRecDepth 100000 in
theorem c_M_ofFront_1 (l : Launch) (D : va_G) (ct : Nat → ClassId) (st : Nat → Nat) (am : Nat → Nat) (th : Int32) (bu : Int64) (he : Int64) (S : Nat → Int64) (cnt : Nat) (k : Nat) (hcnt : S 210 = lN cnt) (hn8 : cnt ≤ 8) (hk : k < cnt) (sz : Nat) : Met l y_M_ofFront (wsy y_M_ofFront b_M_ofFront 3 (some .int)) (rmW 1 0 0 25) (PcW D ct st [.ref (am 0), .int (nI k), .int 1] [((am 0), .inr (8, [.int th, .ref (am 1), .ref (am 2), .ref (am 3), .ref (am 4), .ref (am 5), .long bu, .long he, .ref (am 6), .ref (am 7)])), ((am 1), .inl (ct 1, 334, .inr (.inl S)))] sz) (QcW D [((am 0), .inr (8, [.int th, .ref (am 1), .ref (am 2), .ref (am 3), .ref (am 4), .ref (am 5), .long bu, .long he, .ref (am 6), .ref (am 7)])), ((am 1), .inl (ct 1, 334, .inr (.inl S)))] sz (fun v W1 => v = some (.int ((S (219 + k)).toInt32)) ∧ W1 = [((am 0), .inr (8, [.int 0, .ref (am 1), .ref (am 2), .ref (am 3), .ref (am 4), .ref (am 5), .long bu, .long he, .ref (am 6), .ref (am 7)])), ((am 1), .inl (ct 1, 334, .inr (.inl S)))] ∧ (True))) 0 0 (va_A [((am 0), .inr (8, [.int th, .ref (am 1), .ref (am 2), .ref (am 3), .ref (am 4), .ref (am 5), .long bu, .long he, .ref (am 6), .ref (am 7)])), ((am 1), .inl (ct 1, 334, .inr (.inl S)))] sz) := by
  refine enterW (by decide) (Nat.le_of_ble_eq_true rfl) ?_
  intro p e s m args below meth c ls A hx hb hr hml hown hts hlk hin hsz hAe hP hD hA hE hV hS hl
  have hl : lv_has ls 3 [(0, .ref (am 0)), (1, .int (nI k)), (2, .int 1)] := hl
  refine lv_aload_n hx hb d_M_ofFront_0 rfl (lv_at hl 0 rfl) ?_
  refine lv_iload_n hx hb d_M_ofFront_1 rfl (lv_at hl 1 rfl) ?_
  refine lv_i2l (v := lN k) hx hb d_M_ofFront_2 (nI_l (by omega)) ?_
  refine lv_lconst (v := 0) hx hb d_M_ofFront_3 (by decide) ?_
  refine lv_aload_n hx hb d_M_ofFront_4 rfl (lv_at hl 0 rfl) ?_
  refine q_get 0 1 i_M rfl hx hb hts hown hE hP rfl (by decide) x_937 rfl d_M_ofFront_5 ?_
  refine lv_sipush (v := 210) hx hb d_M_ofFront_8 (by decide) ?_
  refine q_lald (k := 210) 1 hx hb hE hP rfl rfl (by omega) (by decide) d_M_ofFront_11 ?_
  refine lv_lconst (v := 1) hx hb d_M_ofFront_12 (by decide) ?_
  refine lv_lsub hx hb d_M_ofFront_13 ?_
  refine cRS (As := [.long (lN k), .long 0, .long ((S 210) - 1)]) (rest := [.ref (am 0)]) K_M_in x_978 hx hb hml hown hts hE hV hS (c_M_in l D ct st (lN k) 0 ((S 210) - 1)) (fun k q h => by simp at h) rfl hl.1 rfl (Nat.le_of_ble_eq_true rfl) d_M_ofFront_14 (Nat.le_of_ble_eq_true rfl) (Nat.le_of_ble_eq_true rfl) ⟨Nat.le_of_ble_eq_true rfl, Nat.le_of_ble_eq_true rfl⟩ ?_
  refine q_ifne_b (tgt := 24) hx hb d_M_ofFront_17 (by decide) (fun h_17 => ?_) (fun h_17 => absurd (by have z := cell_in hcnt hk (by omega); rw [nI_l (by omega)] at z; exact z) h_17)
  refine lv_iload_n hx hb d_M_ofFront_24 rfl (lv_at hl 2 rfl) ?_
  refine lv_i2l (v := 1) hx hb d_M_ofFront_25 (by decide) ?_
  refine lv_lconst (v := 0) hx hb d_M_ofFront_26 (by decide) ?_
  refine lv_ldc2 (v := 3) hx hb hown (hts _ (List.mem_cons_of_mem _ x_1045)) d_M_ofFront_27 ?_
  refine cRS (As := [.long 1, .long 0, .long 3]) (rest := [.ref (am 0)]) K_M_in x_978 hx hb hml hown hts hE hV hS (c_M_in l D ct st 1 0 3) (fun k q h => by simp at h) rfl hl.1 rfl (Nat.le_of_ble_eq_true rfl) d_M_ofFront_30 (Nat.le_of_ble_eq_true rfl) (Nat.le_of_ble_eq_true rfl) ⟨Nat.le_of_ble_eq_true rfl, Nat.le_of_ble_eq_true rfl⟩ ?_
  refine q_ifeq_b (tgt := 40) hx hb d_M_ofFront_33 (by decide) (fun h_33 => absurd (w_inN (a := 1) (lo := 0) (hi := 3) (by omega) (by omega) (by omega)) h_33) (fun h_33 => ?_)
  refine lv_iconst (v := 0) hx hb d_M_ofFront_36 (by decide) ?_
  refine lv_goto (tgt := 41) hx hb d_M_ofFront_37 (by decide) ?_
  refine q_put (ty := .int) 0 0 (ws1 := [((am 0), .inr (8, [.int 0, .ref (am 1), .ref (am 2), .ref (am 3), .ref (am 4), .ref (am 5), .long bu, .long he, .ref (am 6), .ref (am 7)])), ((am 1), .inl (ct 1, 334, .inr (.inl S)))]) t_M i_M t_M_ok n_M rfl hx hb hts hown hE hP hD hS rfl (by decide) x_936 rfl (by decide +kernel) (rfl) rfl (Nat.le_of_ble_eq_true rfl) rfl d_M_ofFront_41 (fun H locs hP hD hS => ?_)
  refine lv_aload_n hx hb d_M_ofFront_44 rfl (lv_at hl 0 rfl) ?_
  refine q_get 0 0 i_M rfl hx hb hts hown hE hP rfl (by decide) x_936 rfl d_M_ofFront_45 ?_
  refine lv_if_le (tgt := 55) hx hb d_M_ofFront_48 (by decide) (fun _ => ?_) (fun h => absurd h (by decide))
  refine lv_aload_n hx hb d_M_ofFront_55 rfl (lv_at hl 0 rfl) ?_
  refine q_get 0 1 i_M rfl hx hb hts hown hE hP rfl (by decide) x_937 rfl d_M_ofFront_56 ?_
  refine lv_sipush (v := 211) hx hb d_M_ofFront_59 (by decide) ?_
  refine lv_bipush (v := 8) hx hb d_M_ofFront_62 (by decide) ?_
  refine lv_iload_n hx hb d_M_ofFront_64 rfl (lv_at hl 2 rfl) ?_
  refine q_imul (v := 8) hx hb d_M_ofFront_65 (by decide) ?_
  refine q_iadd (v := 219) hx hb d_M_ofFront_66 (by decide) ?_
  refine lv_iload_n hx hb d_M_ofFront_67 rfl (lv_at hl 1 rfl) ?_
  refine q_iadd (v := nI (219 + k)) hx hb d_M_ofFront_68 (nI_add 219 k) ?_
  refine q_lald (k := 219 + k) 1 hx hb hE hP rfl rfl (by omega) (by decide) d_M_ofFront_69 ?_
  refine lv_l2i hx hb d_M_ofFront_70 rfl ?_
  exact rW_i hx hb hr hlk hAe hS hP hD (Nat.le_of_ble_eq_true rfl) (Nat.le_of_ble_eq_true rfl) d_M_ofFront_71 ⟨rfl, rfl, trivial⟩
set_option maxHeartbeats 4000000 in
set_option maxRecDepth 100000 in
theorem c_M_ofFront_2 (l : Launch) (D : va_G) (ct : Nat → ClassId) (st : Nat → Nat) (am : Nat → Nat) (th : Int32) (bu : Int64) (he : Int64) (S : Nat → Int64) (cnt : Nat) (k : Nat) (hcnt : S 210 = lN cnt) (hn8 : cnt ≤ 8) (hk : k < cnt) (sz : Nat) : Met l y_M_ofFront (wsy y_M_ofFront b_M_ofFront 3 (some .int)) (rmW 1 0 0 25) (PcW D ct st [.ref (am 0), .int (nI k), .int 2] [((am 0), .inr (8, [.int th, .ref (am 1), .ref (am 2), .ref (am 3), .ref (am 4), .ref (am 5), .long bu, .long he, .ref (am 6), .ref (am 7)])), ((am 1), .inl (ct 1, 334, .inr (.inl S)))] sz) (QcW D [((am 0), .inr (8, [.int th, .ref (am 1), .ref (am 2), .ref (am 3), .ref (am 4), .ref (am 5), .long bu, .long he, .ref (am 6), .ref (am 7)])), ((am 1), .inl (ct 1, 334, .inr (.inl S)))] sz (fun v W1 => v = some (.int ((S (227 + k)).toInt32)) ∧ W1 = [((am 0), .inr (8, [.int 0, .ref (am 1), .ref (am 2), .ref (am 3), .ref (am 4), .ref (am 5), .long bu, .long he, .ref (am 6), .ref (am 7)])), ((am 1), .inl (ct 1, 334, .inr (.inl S)))] ∧ (True))) 0 0 (va_A [((am 0), .inr (8, [.int th, .ref (am 1), .ref (am 2), .ref (am 3), .ref (am 4), .ref (am 5), .long bu, .long he, .ref (am 6), .ref (am 7)])), ((am 1), .inl (ct 1, 334, .inr (.inl S)))] sz) := by
  refine enterW (by decide) (Nat.le_of_ble_eq_true rfl) ?_
  intro p e s m args below meth c ls A hx hb hr hml hown hts hlk hin hsz hAe hP hD hA hE hV hS hl
  have hl : lv_has ls 3 [(0, .ref (am 0)), (1, .int (nI k)), (2, .int 2)] := hl
  refine lv_aload_n hx hb d_M_ofFront_0 rfl (lv_at hl 0 rfl) ?_
  refine lv_iload_n hx hb d_M_ofFront_1 rfl (lv_at hl 1 rfl) ?_
  refine lv_i2l (v := lN k) hx hb d_M_ofFront_2 (nI_l (by omega)) ?_
  refine lv_lconst (v := 0) hx hb d_M_ofFront_3 (by decide) ?_
  refine lv_aload_n hx hb d_M_ofFront_4 rfl (lv_at hl 0 rfl) ?_
  refine q_get 0 1 i_M rfl hx hb hts hown hE hP rfl (by decide) x_937 rfl d_M_ofFront_5 ?_
  refine lv_sipush (v := 210) hx hb d_M_ofFront_8 (by decide) ?_
  refine q_lald (k := 210) 1 hx hb hE hP rfl rfl (by omega) (by decide) d_M_ofFront_11 ?_
  refine lv_lconst (v := 1) hx hb d_M_ofFront_12 (by decide) ?_
  refine lv_lsub hx hb d_M_ofFront_13 ?_
  refine cRS (As := [.long (lN k), .long 0, .long ((S 210) - 1)]) (rest := [.ref (am 0)]) K_M_in x_978 hx hb hml hown hts hE hV hS (c_M_in l D ct st (lN k) 0 ((S 210) - 1)) (fun k q h => by simp at h) rfl hl.1 rfl (Nat.le_of_ble_eq_true rfl) d_M_ofFront_14 (Nat.le_of_ble_eq_true rfl) (Nat.le_of_ble_eq_true rfl) ⟨Nat.le_of_ble_eq_true rfl, Nat.le_of_ble_eq_true rfl⟩ ?_
  refine q_ifne_b (tgt := 24) hx hb d_M_ofFront_17 (by decide) (fun h_17 => ?_) (fun h_17 => absurd (by have z := cell_in hcnt hk (by omega); rw [nI_l (by omega)] at z; exact z) h_17)
  refine lv_iload_n hx hb d_M_ofFront_24 rfl (lv_at hl 2 rfl) ?_
  refine lv_i2l (v := 2) hx hb d_M_ofFront_25 (by decide) ?_
  refine lv_lconst (v := 0) hx hb d_M_ofFront_26 (by decide) ?_
  refine lv_ldc2 (v := 3) hx hb hown (hts _ (List.mem_cons_of_mem _ x_1045)) d_M_ofFront_27 ?_
  refine cRS (As := [.long 2, .long 0, .long 3]) (rest := [.ref (am 0)]) K_M_in x_978 hx hb hml hown hts hE hV hS (c_M_in l D ct st 2 0 3) (fun k q h => by simp at h) rfl hl.1 rfl (Nat.le_of_ble_eq_true rfl) d_M_ofFront_30 (Nat.le_of_ble_eq_true rfl) (Nat.le_of_ble_eq_true rfl) ⟨Nat.le_of_ble_eq_true rfl, Nat.le_of_ble_eq_true rfl⟩ ?_
  refine q_ifeq_b (tgt := 40) hx hb d_M_ofFront_33 (by decide) (fun h_33 => absurd (w_inN (a := 2) (lo := 0) (hi := 3) (by omega) (by omega) (by omega)) h_33) (fun h_33 => ?_)
  refine lv_iconst (v := 0) hx hb d_M_ofFront_36 (by decide) ?_
  refine lv_goto (tgt := 41) hx hb d_M_ofFront_37 (by decide) ?_
  refine q_put (ty := .int) 0 0 (ws1 := [((am 0), .inr (8, [.int 0, .ref (am 1), .ref (am 2), .ref (am 3), .ref (am 4), .ref (am 5), .long bu, .long he, .ref (am 6), .ref (am 7)])), ((am 1), .inl (ct 1, 334, .inr (.inl S)))]) t_M i_M t_M_ok n_M rfl hx hb hts hown hE hP hD hS rfl (by decide) x_936 rfl (by decide +kernel) (rfl) rfl (Nat.le_of_ble_eq_true rfl) rfl d_M_ofFront_41 (fun H locs hP hD hS => ?_)
  refine lv_aload_n hx hb d_M_ofFront_44 rfl (lv_at hl 0 rfl) ?_
  refine q_get 0 0 i_M rfl hx hb hts hown hE hP rfl (by decide) x_936 rfl d_M_ofFront_45 ?_
  refine lv_if_le (tgt := 55) hx hb d_M_ofFront_48 (by decide) (fun _ => ?_) (fun h => absurd h (by decide))
  refine lv_aload_n hx hb d_M_ofFront_55 rfl (lv_at hl 0 rfl) ?_
  refine q_get 0 1 i_M rfl hx hb hts hown hE hP rfl (by decide) x_937 rfl d_M_ofFront_56 ?_
  refine lv_sipush (v := 211) hx hb d_M_ofFront_59 (by decide) ?_
  refine lv_bipush (v := 8) hx hb d_M_ofFront_62 (by decide) ?_
  refine lv_iload_n hx hb d_M_ofFront_64 rfl (lv_at hl 2 rfl) ?_
  refine q_imul (v := 16) hx hb d_M_ofFront_65 (by decide) ?_
  refine q_iadd (v := 227) hx hb d_M_ofFront_66 (by decide) ?_
  refine lv_iload_n hx hb d_M_ofFront_67 rfl (lv_at hl 1 rfl) ?_
  refine q_iadd (v := nI (227 + k)) hx hb d_M_ofFront_68 (nI_add 227 k) ?_
  refine q_lald (k := 227 + k) 1 hx hb hE hP rfl rfl (by omega) (by decide) d_M_ofFront_69 ?_
  refine lv_l2i hx hb d_M_ofFront_70 rfl ?_
  exact rW_i hx hb hr hlk hAe hS hP hD (Nat.le_of_ble_eq_true rfl) (Nat.le_of_ble_eq_true rfl) d_M_ofFront_71 ⟨rfl, rfl, trivial⟩
set_option maxHeartbeats 4000000 in
set_option maxRecDepth 100000 in
theorem c_M_ofFront_3 (l : Launch) (D : va_G) (ct : Nat → ClassId) (st : Nat → Nat) (am : Nat → Nat) (th : Int32) (bu : Int64) (he : Int64) (S : Nat → Int64) (cnt : Nat) (k : Nat) (hcnt : S 210 = lN cnt) (hn8 : cnt ≤ 8) (hk : k < cnt) (sz : Nat) : Met l y_M_ofFront (wsy y_M_ofFront b_M_ofFront 3 (some .int)) (rmW 1 0 0 25) (PcW D ct st [.ref (am 0), .int (nI k), .int 3] [((am 0), .inr (8, [.int th, .ref (am 1), .ref (am 2), .ref (am 3), .ref (am 4), .ref (am 5), .long bu, .long he, .ref (am 6), .ref (am 7)])), ((am 1), .inl (ct 1, 334, .inr (.inl S)))] sz) (QcW D [((am 0), .inr (8, [.int th, .ref (am 1), .ref (am 2), .ref (am 3), .ref (am 4), .ref (am 5), .long bu, .long he, .ref (am 6), .ref (am 7)])), ((am 1), .inl (ct 1, 334, .inr (.inl S)))] sz (fun v W1 => v = some (.int ((S (235 + k)).toInt32)) ∧ W1 = [((am 0), .inr (8, [.int 0, .ref (am 1), .ref (am 2), .ref (am 3), .ref (am 4), .ref (am 5), .long bu, .long he, .ref (am 6), .ref (am 7)])), ((am 1), .inl (ct 1, 334, .inr (.inl S)))] ∧ (True))) 0 0 (va_A [((am 0), .inr (8, [.int th, .ref (am 1), .ref (am 2), .ref (am 3), .ref (am 4), .ref (am 5), .long bu, .long he, .ref (am 6), .ref (am 7)])), ((am 1), .inl (ct 1, 334, .inr (.inl S)))] sz) := by
  refine enterW (by decide) (Nat.le_of_ble_eq_true rfl) ?_
  intro p e s m args below meth c ls A hx hb hr hml hown hts hlk hin hsz hAe hP hD hA hE hV hS hl
  have hl : lv_has ls 3 [(0, .ref (am 0)), (1, .int (nI k)), (2, .int 3)] := hl
  refine lv_aload_n hx hb d_M_ofFront_0 rfl (lv_at hl 0 rfl) ?_
  refine lv_iload_n hx hb d_M_ofFront_1 rfl (lv_at hl 1 rfl) ?_
  refine lv_i2l (v := lN k) hx hb d_M_ofFront_2 (nI_l (by omega)) ?_
  refine lv_lconst (v := 0) hx hb d_M_ofFront_3 (by decide) ?_
  refine lv_aload_n hx hb d_M_ofFront_4 rfl (lv_at hl 0 rfl) ?_
  refine q_get 0 1 i_M rfl hx hb hts hown hE hP rfl (by decide) x_937 rfl d_M_ofFront_5 ?_
  refine lv_sipush (v := 210) hx hb d_M_ofFront_8 (by decide) ?_
  refine q_lald (k := 210) 1 hx hb hE hP rfl rfl (by omega) (by decide) d_M_ofFront_11 ?_
  refine lv_lconst (v := 1) hx hb d_M_ofFront_12 (by decide) ?_
  refine lv_lsub hx hb d_M_ofFront_13 ?_
  refine cRS (As := [.long (lN k), .long 0, .long ((S 210) - 1)]) (rest := [.ref (am 0)]) K_M_in x_978 hx hb hml hown hts hE hV hS (c_M_in l D ct st (lN k) 0 ((S 210) - 1)) (fun k q h => by simp at h) rfl hl.1 rfl (Nat.le_of_ble_eq_true rfl) d_M_ofFront_14 (Nat.le_of_ble_eq_true rfl) (Nat.le_of_ble_eq_true rfl) ⟨Nat.le_of_ble_eq_true rfl, Nat.le_of_ble_eq_true rfl⟩ ?_
  refine q_ifne_b (tgt := 24) hx hb d_M_ofFront_17 (by decide) (fun h_17 => ?_) (fun h_17 => absurd (by have z := cell_in hcnt hk (by omega); rw [nI_l (by omega)] at z; exact z) h_17)
  refine lv_iload_n hx hb d_M_ofFront_24 rfl (lv_at hl 2 rfl) ?_
  refine lv_i2l (v := 3) hx hb d_M_ofFront_25 (by decide) ?_
  refine lv_lconst (v := 0) hx hb d_M_ofFront_26 (by decide) ?_
  refine lv_ldc2 (v := 3) hx hb hown (hts _ (List.mem_cons_of_mem _ x_1045)) d_M_ofFront_27 ?_
  refine cRS (As := [.long 3, .long 0, .long 3]) (rest := [.ref (am 0)]) K_M_in x_978 hx hb hml hown hts hE hV hS (c_M_in l D ct st 3 0 3) (fun k q h => by simp at h) rfl hl.1 rfl (Nat.le_of_ble_eq_true rfl) d_M_ofFront_30 (Nat.le_of_ble_eq_true rfl) (Nat.le_of_ble_eq_true rfl) ⟨Nat.le_of_ble_eq_true rfl, Nat.le_of_ble_eq_true rfl⟩ ?_
  refine q_ifeq_b (tgt := 40) hx hb d_M_ofFront_33 (by decide) (fun h_33 => absurd (w_inN (a := 3) (lo := 0) (hi := 3) (by omega) (by omega) (by omega)) h_33) (fun h_33 => ?_)
  refine lv_iconst (v := 0) hx hb d_M_ofFront_36 (by decide) ?_
  refine lv_goto (tgt := 41) hx hb d_M_ofFront_37 (by decide) ?_
  refine q_put (ty := .int) 0 0 (ws1 := [((am 0), .inr (8, [.int 0, .ref (am 1), .ref (am 2), .ref (am 3), .ref (am 4), .ref (am 5), .long bu, .long he, .ref (am 6), .ref (am 7)])), ((am 1), .inl (ct 1, 334, .inr (.inl S)))]) t_M i_M t_M_ok n_M rfl hx hb hts hown hE hP hD hS rfl (by decide) x_936 rfl (by decide +kernel) (rfl) rfl (Nat.le_of_ble_eq_true rfl) rfl d_M_ofFront_41 (fun H locs hP hD hS => ?_)
  refine lv_aload_n hx hb d_M_ofFront_44 rfl (lv_at hl 0 rfl) ?_
  refine q_get 0 0 i_M rfl hx hb hts hown hE hP rfl (by decide) x_936 rfl d_M_ofFront_45 ?_
  refine lv_if_le (tgt := 55) hx hb d_M_ofFront_48 (by decide) (fun _ => ?_) (fun h => absurd h (by decide))
  refine lv_aload_n hx hb d_M_ofFront_55 rfl (lv_at hl 0 rfl) ?_
  refine q_get 0 1 i_M rfl hx hb hts hown hE hP rfl (by decide) x_937 rfl d_M_ofFront_56 ?_
  refine lv_sipush (v := 211) hx hb d_M_ofFront_59 (by decide) ?_
  refine lv_bipush (v := 8) hx hb d_M_ofFront_62 (by decide) ?_
  refine lv_iload_n hx hb d_M_ofFront_64 rfl (lv_at hl 2 rfl) ?_
  refine q_imul (v := 24) hx hb d_M_ofFront_65 (by decide) ?_
  refine q_iadd (v := 235) hx hb d_M_ofFront_66 (by decide) ?_
  refine lv_iload_n hx hb d_M_ofFront_67 rfl (lv_at hl 1 rfl) ?_
  refine q_iadd (v := nI (235 + k)) hx hb d_M_ofFront_68 (nI_add 235 k) ?_
  refine q_lald (k := 235 + k) 1 hx hb hE hP rfl rfl (by omega) (by decide) d_M_ofFront_69 ?_
  refine lv_l2i hx hb d_M_ofFront_70 rfl ?_
  exact rW_i hx hb hr hlk hAe hS hP hD (Nat.le_of_ble_eq_true rfl) (Nat.le_of_ble_eq_true rfl) d_M_ofFront_71 ⟨rfl, rfl, trivial⟩
set_option maxHeartbeats 4000000 in
set_option maxRecDepth 100000 in
theorem c_M_ofFront_b1 (l : Launch) (D : va_G) (ct : Nat → ClassId) (st : Nat → Nat) (am : Nat → Nat) (th : Int32) (bu : Int64) (he : Int64) (S : Nat → Int64) (a0 : Int32) (a1 : Int32) (hb0 : ¬ w_in a0.toInt64 0 (S 210 - 1)) (sz : Nat) : Met l y_M_ofFront (wsy y_M_ofFront b_M_ofFront 3 (some .int)) (rmW 1 0 0 25) (PcW D ct st [.ref (am 0), .int a0, .int a1] [((am 0), .inr (8, [.int th, .ref (am 1), .ref (am 2), .ref (am 3), .ref (am 4), .ref (am 5), .long bu, .long he, .ref (am 6), .ref (am 7)])), ((am 1), .inl (ct 1, 334, .inr (.inl S)))] sz) (QcW D [((am 0), .inr (8, [.int th, .ref (am 1), .ref (am 2), .ref (am 3), .ref (am 4), .ref (am 5), .long bu, .long he, .ref (am 6), .ref (am 7)])), ((am 1), .inl (ct 1, 334, .inr (.inl S)))] sz (fun v W1 => v = some (.int 0) ∧ W1 = [((am 0), .inr (8, [.int 1, .ref (am 1), .ref (am 2), .ref (am 3), .ref (am 4), .ref (am 5), .long bu, .long he, .ref (am 6), .ref (am 7)])), ((am 1), .inl (ct 1, 334, .inr (.inl S)))] ∧ (True))) 0 0 (va_A [((am 0), .inr (8, [.int th, .ref (am 1), .ref (am 2), .ref (am 3), .ref (am 4), .ref (am 5), .long bu, .long he, .ref (am 6), .ref (am 7)])), ((am 1), .inl (ct 1, 334, .inr (.inl S)))] sz) := by
  refine enterW (by decide) (Nat.le_of_ble_eq_true rfl) ?_
  intro p e s m args below meth c ls A hx hb hr hml hown hts hlk hin hsz hAe hP hD hA hE hV hS hl
  have hl : lv_has ls 3 [(0, .ref (am 0)), (1, .int a0), (2, .int a1)] := hl
  refine lv_aload_n hx hb d_M_ofFront_0 rfl (lv_at hl 0 rfl) ?_
  refine lv_iload_n hx hb d_M_ofFront_1 rfl (lv_at hl 1 rfl) ?_
  refine lv_i2l hx hb d_M_ofFront_2 rfl ?_
  refine lv_lconst (v := 0) hx hb d_M_ofFront_3 (by decide) ?_
  refine lv_aload_n hx hb d_M_ofFront_4 rfl (lv_at hl 0 rfl) ?_
  refine q_get 0 1 i_M rfl hx hb hts hown hE hP rfl (by decide) x_937 rfl d_M_ofFront_5 ?_
  refine lv_sipush (v := 210) hx hb d_M_ofFront_8 (by decide) ?_
  refine q_lald (k := 210) 1 hx hb hE hP rfl rfl (by omega) (by decide) d_M_ofFront_11 ?_
  refine lv_lconst (v := 1) hx hb d_M_ofFront_12 (by decide) ?_
  refine lv_lsub hx hb d_M_ofFront_13 ?_
  refine cRS (As := [.long a0.toInt64, .long 0, .long ((S 210) - 1)]) (rest := [.ref (am 0)]) K_M_in x_978 hx hb hml hown hts hE hV hS (c_M_in l D ct st a0.toInt64 0 ((S 210) - 1)) (fun k q h => by simp at h) rfl hl.1 rfl (Nat.le_of_ble_eq_true rfl) d_M_ofFront_14 (Nat.le_of_ble_eq_true rfl) (Nat.le_of_ble_eq_true rfl) ⟨Nat.le_of_ble_eq_true rfl, Nat.le_of_ble_eq_true rfl⟩ ?_
  refine q_ifne_b (tgt := 24) hx hb d_M_ofFront_17 (by decide) (fun h_17 => absurd h_17 hb0) (fun h_17 => ?_)
  refine lv_iconst (v := 1) hx hb d_M_ofFront_20 (by decide) ?_
  refine lv_goto (tgt := 41) hx hb d_M_ofFront_21 (by decide) ?_
  refine q_put (ty := .int) 0 0 (ws1 := [((am 0), .inr (8, [.int 1, .ref (am 1), .ref (am 2), .ref (am 3), .ref (am 4), .ref (am 5), .long bu, .long he, .ref (am 6), .ref (am 7)])), ((am 1), .inl (ct 1, 334, .inr (.inl S)))]) t_M i_M t_M_ok n_M rfl hx hb hts hown hE hP hD hS rfl (by decide) x_936 rfl (by decide +kernel) (rfl) rfl (Nat.le_of_ble_eq_true rfl) rfl d_M_ofFront_41 (fun H locs hP hD hS => ?_)
  refine lv_aload_n hx hb d_M_ofFront_44 rfl (lv_at hl 0 rfl) ?_
  refine q_get 0 0 i_M rfl hx hb hts hown hE hP rfl (by decide) x_936 rfl d_M_ofFront_45 ?_
  refine lv_if_le (tgt := 55) hx hb d_M_ofFront_48 (by decide) (fun h => absurd h (by decide)) (fun _ => ?_)
  refine lv_iconst (v := 0) hx hb d_M_ofFront_51 (by decide) ?_
  refine lv_goto (tgt := 71) hx hb d_M_ofFront_52 (by decide) ?_
  exact rW_i hx hb hr hlk hAe hS hP hD (Nat.le_of_ble_eq_true rfl) (Nat.le_of_ble_eq_true rfl) d_M_ofFront_71 ⟨rfl, rfl, trivial⟩
set_option maxHeartbeats 4000000 in
set_option maxRecDepth 100000 in
theorem c_M_ofFront_b2 (l : Launch) (D : va_G) (ct : Nat → ClassId) (st : Nat → Nat) (am : Nat → Nat) (th : Int32) (bu : Int64) (he : Int64) (S : Nat → Int64) (a0 : Int32) (a1 : Int32) (hb1 : w_in a0.toInt64 0 (S 210 - 1)) (hb0 : ¬ w_in a1.toInt64 0 3) (sz : Nat) : Met l y_M_ofFront (wsy y_M_ofFront b_M_ofFront 3 (some .int)) (rmW 1 0 0 25) (PcW D ct st [.ref (am 0), .int a0, .int a1] [((am 0), .inr (8, [.int th, .ref (am 1), .ref (am 2), .ref (am 3), .ref (am 4), .ref (am 5), .long bu, .long he, .ref (am 6), .ref (am 7)])), ((am 1), .inl (ct 1, 334, .inr (.inl S)))] sz) (QcW D [((am 0), .inr (8, [.int th, .ref (am 1), .ref (am 2), .ref (am 3), .ref (am 4), .ref (am 5), .long bu, .long he, .ref (am 6), .ref (am 7)])), ((am 1), .inl (ct 1, 334, .inr (.inl S)))] sz (fun v W1 => v = some (.int 0) ∧ W1 = [((am 0), .inr (8, [.int 2, .ref (am 1), .ref (am 2), .ref (am 3), .ref (am 4), .ref (am 5), .long bu, .long he, .ref (am 6), .ref (am 7)])), ((am 1), .inl (ct 1, 334, .inr (.inl S)))] ∧ (True))) 0 0 (va_A [((am 0), .inr (8, [.int th, .ref (am 1), .ref (am 2), .ref (am 3), .ref (am 4), .ref (am 5), .long bu, .long he, .ref (am 6), .ref (am 7)])), ((am 1), .inl (ct 1, 334, .inr (.inl S)))] sz) := by
  refine enterW (by decide) (Nat.le_of_ble_eq_true rfl) ?_
  intro p e s m args below meth c ls A hx hb hr hml hown hts hlk hin hsz hAe hP hD hA hE hV hS hl
  have hl : lv_has ls 3 [(0, .ref (am 0)), (1, .int a0), (2, .int a1)] := hl
  refine lv_aload_n hx hb d_M_ofFront_0 rfl (lv_at hl 0 rfl) ?_
  refine lv_iload_n hx hb d_M_ofFront_1 rfl (lv_at hl 1 rfl) ?_
  refine lv_i2l hx hb d_M_ofFront_2 rfl ?_
  refine lv_lconst (v := 0) hx hb d_M_ofFront_3 (by decide) ?_
  refine lv_aload_n hx hb d_M_ofFront_4 rfl (lv_at hl 0 rfl) ?_
  refine q_get 0 1 i_M rfl hx hb hts hown hE hP rfl (by decide) x_937 rfl d_M_ofFront_5 ?_
  refine lv_sipush (v := 210) hx hb d_M_ofFront_8 (by decide) ?_
  refine q_lald (k := 210) 1 hx hb hE hP rfl rfl (by omega) (by decide) d_M_ofFront_11 ?_
  refine lv_lconst (v := 1) hx hb d_M_ofFront_12 (by decide) ?_
  refine lv_lsub hx hb d_M_ofFront_13 ?_
  refine cRS (As := [.long a0.toInt64, .long 0, .long ((S 210) - 1)]) (rest := [.ref (am 0)]) K_M_in x_978 hx hb hml hown hts hE hV hS (c_M_in l D ct st a0.toInt64 0 ((S 210) - 1)) (fun k q h => by simp at h) rfl hl.1 rfl (Nat.le_of_ble_eq_true rfl) d_M_ofFront_14 (Nat.le_of_ble_eq_true rfl) (Nat.le_of_ble_eq_true rfl) ⟨Nat.le_of_ble_eq_true rfl, Nat.le_of_ble_eq_true rfl⟩ ?_
  refine q_ifne_b (tgt := 24) hx hb d_M_ofFront_17 (by decide) (fun h_17 => ?_) (fun h_17 => absurd hb1 h_17)
  refine lv_iload_n hx hb d_M_ofFront_24 rfl (lv_at hl 2 rfl) ?_
  refine lv_i2l hx hb d_M_ofFront_25 rfl ?_
  refine lv_lconst (v := 0) hx hb d_M_ofFront_26 (by decide) ?_
  refine lv_ldc2 (v := 3) hx hb hown (hts _ (List.mem_cons_of_mem _ x_1045)) d_M_ofFront_27 ?_
  refine cRS (As := [.long a1.toInt64, .long 0, .long 3]) (rest := [.ref (am 0)]) K_M_in x_978 hx hb hml hown hts hE hV hS (c_M_in l D ct st a1.toInt64 0 3) (fun k q h => by simp at h) rfl hl.1 rfl (Nat.le_of_ble_eq_true rfl) d_M_ofFront_30 (Nat.le_of_ble_eq_true rfl) (Nat.le_of_ble_eq_true rfl) ⟨Nat.le_of_ble_eq_true rfl, Nat.le_of_ble_eq_true rfl⟩ ?_
  refine q_ifeq_b (tgt := 40) hx hb d_M_ofFront_33 (by decide) (fun h_33 => ?_) (fun h_33 => absurd h_33 hb0)
  refine lv_iconst (v := 2) hx hb d_M_ofFront_40 (by decide) ?_
  refine q_put (ty := .int) 0 0 (ws1 := [((am 0), .inr (8, [.int 2, .ref (am 1), .ref (am 2), .ref (am 3), .ref (am 4), .ref (am 5), .long bu, .long he, .ref (am 6), .ref (am 7)])), ((am 1), .inl (ct 1, 334, .inr (.inl S)))]) t_M i_M t_M_ok n_M rfl hx hb hts hown hE hP hD hS rfl (by decide) x_936 rfl (by decide +kernel) (rfl) rfl (Nat.le_of_ble_eq_true rfl) rfl d_M_ofFront_41 (fun H locs hP hD hS => ?_)
  refine lv_aload_n hx hb d_M_ofFront_44 rfl (lv_at hl 0 rfl) ?_
  refine q_get 0 0 i_M rfl hx hb hts hown hE hP rfl (by decide) x_936 rfl d_M_ofFront_45 ?_
  refine lv_if_le (tgt := 55) hx hb d_M_ofFront_48 (by decide) (fun h => absurd h (by decide)) (fun _ => ?_)
  refine lv_iconst (v := 0) hx hb d_M_ofFront_51 (by decide) ?_
  refine lv_goto (tgt := 71) hx hb d_M_ofFront_52 (by decide) ?_
  exact rW_i hx hb hr hlk hAe hS hP hD (Nat.le_of_ble_eq_true rfl) (Nat.le_of_ble_eq_true rfl) d_M_ofFront_71 ⟨rfl, rfl, trivial⟩
set_option maxHeartbeats 4000000 in
set_option maxRecDepth 100000 in
theorem c_M_isKept_bad (l : Launch) (D : va_G) (ct : Nat → ClassId) (st : Nat → Nat) (am : Nat → Nat) (th : Int32) (bu : Int64) (he : Int64) (S : Nat → Int64) (a0 : Int32) (hb0 : ¬ w_in a0.toInt64 0 3) (sz : Nat) : Met l y_M_isKept (wsy y_M_isKept b_M_isKept 5 (some .boolean)) (rmW 1 0 0 25) (PcW D ct st [.ref (am 0), .int a0] [((am 0), .inr (8, [.int th, .ref (am 1), .ref (am 2), .ref (am 3), .ref (am 4), .ref (am 5), .long bu, .long he, .ref (am 6), .ref (am 7)])), ((am 1), .inl (ct 1, 334, .inr (.inl S)))] sz) (QcW D [((am 0), .inr (8, [.int th, .ref (am 1), .ref (am 2), .ref (am 3), .ref (am 4), .ref (am 5), .long bu, .long he, .ref (am 6), .ref (am 7)])), ((am 1), .inl (ct 1, 334, .inr (.inl S)))] sz (fun v W1 => v = some (.int (bI False)) ∧ W1 = [((am 0), .inr (8, [.int 1, .ref (am 1), .ref (am 2), .ref (am 3), .ref (am 4), .ref (am 5), .long bu, .long he, .ref (am 6), .ref (am 7)])), ((am 1), .inl (ct 1, 334, .inr (.inl S)))] ∧ (True))) 0 0 (va_A [((am 0), .inr (8, [.int th, .ref (am 1), .ref (am 2), .ref (am 3), .ref (am 4), .ref (am 5), .long bu, .long he, .ref (am 6), .ref (am 7)])), ((am 1), .inl (ct 1, 334, .inr (.inl S)))] sz) := by
  refine enterW (by decide) (Nat.le_of_ble_eq_true rfl) ?_
  intro p e s m args below meth c ls A hx hb hr hml hown hts hlk hin hsz hAe hP hD hA hE hV hS hl
  have hl : lv_has ls 5 [(0, .ref (am 0)), (1, .int a0)] := hl
  refine lv_aload_n hx hb d_M_isKept_0 rfl (lv_at hl 0 rfl) ?_
  refine lv_iload_n hx hb d_M_isKept_1 rfl (lv_at hl 1 rfl) ?_
  refine lv_i2l hx hb d_M_isKept_2 rfl ?_
  refine lv_lconst (v := 0) hx hb d_M_isKept_3 (by decide) ?_
  refine lv_ldc2 (v := 3) hx hb hown (hts _ (List.mem_cons_of_mem _ x_1045)) d_M_isKept_4 ?_
  refine cRS (As := [.long a0.toInt64, .long 0, .long 3]) (rest := [.ref (am 0)]) K_M_in x_978 hx hb hml hown hts hE hV hS (c_M_in l D ct st a0.toInt64 0 3) (fun k q h => by simp at h) rfl hl.1 rfl (Nat.le_of_ble_eq_true rfl) d_M_isKept_7 (Nat.le_of_ble_eq_true rfl) (Nat.le_of_ble_eq_true rfl) ⟨Nat.le_of_ble_eq_true rfl, Nat.le_of_ble_eq_true rfl⟩ ?_
  refine q_ifeq_b (tgt := 17) hx hb d_M_isKept_10 (by decide) (fun h_10 => ?_) (fun h_10 => absurd h_10 hb0)
  refine lv_iconst (v := 1) hx hb d_M_isKept_17 (by decide) ?_
  refine q_put (ty := .int) 0 0 (ws1 := [((am 0), .inr (8, [.int 1, .ref (am 1), .ref (am 2), .ref (am 3), .ref (am 4), .ref (am 5), .long bu, .long he, .ref (am 6), .ref (am 7)])), ((am 1), .inl (ct 1, 334, .inr (.inl S)))]) t_M i_M t_M_ok n_M rfl hx hb hts hown hE hP hD hS rfl (by decide) x_936 rfl (by decide +kernel) (rfl) rfl (Nat.le_of_ble_eq_true rfl) rfl d_M_isKept_18 (fun H locs hP hD hS => ?_)
  refine lv_aload_n hx hb d_M_isKept_21 rfl (lv_at hl 0 rfl) ?_
  refine q_get 0 0 i_M rfl hx hb hts hown hE hP rfl (by decide) x_936 rfl d_M_isKept_22 ?_
  refine lv_if_le (tgt := 30) hx hb d_M_isKept_25 (by decide) (fun h => absurd h (by decide)) (fun _ => ?_)
  refine lv_iconst (v := 0) hx hb d_M_isKept_28 (by decide) ?_
  exact rW_z (P := False) hx hb hr hlk hAe hS hP hD (Nat.le_of_ble_eq_true rfl) (Nat.le_of_ble_eq_true rfl) d_M_isKept_29 (bI_0 (id)) ⟨rfl, rfl, trivial⟩
set_option maxHeartbeats 4000000 in
set_option maxRecDepth 100000 in
theorem c_M_tick_ok (l : Launch) (D : va_G) (ct : Nat → ClassId) (st : Nat → Nat) (am : Nat → Nat) (th : Int32) (bu : Int64) (he : Int64) (S : Nat → Int64) (Bf : Nat → Int64) (cnt : Nat) (tt : Nat) (hcnt : S 210 = lN cnt) (hn8 : cnt ≤ 8) (hFB : FB cnt (fS S Bf)) (ht : 1 ≤ tt ∧ tt ≤ 100) (sz : Nat) : Met l y_M_tick (wsy y_M_tick b_M_tick 5 (some .int)) (rmW 4 0 0 120) (PcW D ct st [.ref (am 0), .int (nI tt)] [((am 0), .inr (8, [.int th, .ref (am 1), .ref (am 2), .ref (am 3), .ref (am 4), .ref (am 5), .long bu, .long he, .ref (am 6), .ref (am 7)])), ((am 1), .inl (ct 1, 334, .inr (.inl S))), ((am 6), .inl (ct 1, 9, .inr (.inl Bf)))] sz) (QcW D [((am 0), .inr (8, [.int th, .ref (am 1), .ref (am 2), .ref (am 3), .ref (am 4), .ref (am 5), .long bu, .long he, .ref (am 6), .ref (am 7)])), ((am 1), .inl (ct 1, 334, .inr (.inl S))), ((am 6), .inl (ct 1, 9, .inr (.inl Bf)))] sz (fun v W1 => ∃ (s1 : Nat → Int64) (before1 : Nat → Int64), v = some (.int (nI ((tkn tt (cnt, fS S Bf)).1))) ∧ W1 = [((am 0), .inr (8, [.int 0, .ref (am 1), .ref (am 2), .ref (am 3), .ref (am 4), .ref (am 5), .long bu, .long he, .ref (am 6), .ref (am 7)])), ((am 1), .inl (ct 1, 334, .inr (.inl s1))), ((am 6), .inl (ct 1, 9, .inr (.inl before1)))] ∧ (s1 210 = lN (tkn tt (cnt, fS S Bf)).1 ∧ Ag4 (tkn tt (cnt, fS S Bf)).1 (fS s1 before1) (tkn tt (cnt, fS S Bf)).2 ∧ oth s1 S))) 0 0 (va_A [((am 0), .inr (8, [.int th, .ref (am 1), .ref (am 2), .ref (am 3), .ref (am 4), .ref (am 5), .long bu, .long he, .ref (am 6), .ref (am 7)])), ((am 1), .inl (ct 1, 334, .inr (.inl S))), ((am 6), .inl (ct 1, 9, .inr (.inl Bf)))] sz) := by
  refine enterW (by decide) (Nat.le_of_ble_eq_true rfl) ?_
  intro p e s m args below meth c ls A hx hb hr hml hown hts hlk hin hsz hAe hP hD hA hE hV hS hl
  have hl : lv_has ls 5 [(0, .ref (am 0)), (1, .int (nI tt))] := hl
  refine lv_aload_n hx hb d_M_tick_0 rfl (lv_at hl 0 rfl) ?_
  refine lv_iload_n hx hb d_M_tick_1 rfl (lv_at hl 1 rfl) ?_
  refine lv_i2l (v := lN tt) hx hb d_M_tick_2 (nI_l (by omega)) ?_
  refine lv_lconst (v := 1) hx hb d_M_tick_3 (by decide) ?_
  refine lv_ldc2 (v := 100) hx hb hown (hts _ (List.mem_cons_of_mem _ x_1011)) d_M_tick_4 ?_
  refine cRS (As := [.long (lN tt), .long 1, .long 100]) (rest := [.ref (am 0)]) K_M_in x_978 hx hb hml hown hts hE hV hS (c_M_in l D ct st (lN tt) 1 100) (fun k q h => by simp at h) rfl hl.1 rfl (Nat.le_of_ble_eq_true rfl) d_M_tick_7 (Nat.le_of_ble_eq_true rfl) (Nat.le_of_ble_eq_true rfl) ⟨Nat.le_of_ble_eq_true rfl, Nat.le_of_ble_eq_true rfl⟩ ?_
  refine q_ifeq_b (tgt := 17) hx hb d_M_tick_10 (by decide) (fun h_10 => absurd (w_inN (lo := 1) (hi := 100) (by omega) (by omega) (by omega)) h_10) (fun h_10 => ?_)
  refine lv_iconst (v := 0) hx hb d_M_tick_13 (by decide) ?_
  refine lv_goto (tgt := 18) hx hb d_M_tick_14 (by decide) ?_
  refine q_put (ty := .int) 0 0 (ws1 := [((am 0), .inr (8, [.int 0, .ref (am 1), .ref (am 2), .ref (am 3), .ref (am 4), .ref (am 5), .long bu, .long he, .ref (am 6), .ref (am 7)])), ((am 1), .inl (ct 1, 334, .inr (.inl S))), ((am 6), .inl (ct 1, 9, .inr (.inl Bf)))]) t_M i_M t_M_ok n_M rfl hx hb hts hown hE hP hD hS rfl (by decide) x_936 rfl (by decide +kernel) (rfl) rfl (Nat.le_of_ble_eq_true rfl) rfl d_M_tick_18 (fun H locs hP hD hS => ?_)
  refine lv_aload_n hx hb d_M_tick_21 rfl (lv_at hl 0 rfl) ?_
  refine q_get 0 0 i_M rfl hx hb hts hown hE hP rfl (by decide) x_936 rfl d_M_tick_22 ?_
  refine lv_if_ne (tgt := 32) hx hb d_M_tick_25 (by decide) (fun h => absurd h (by decide)) (fun _ => ?_)
  refine lv_iconst (v := 1) hx hb d_M_tick_28 (by decide) ?_
  refine lv_goto (tgt := 33) hx hb d_M_tick_29 (by decide) ?_
  refine lv_istore_n (lv' := [(2, .int 1), (0, .ref (am 0)), (1, .int (nI tt))]) hx hb d_M_tick_33 rfl hl (by decide) rfl (fun ls hl => ?_)
  refine lv_iconst (v := 0) hx hb d_M_tick_34 (by decide) ?_
  refine lv_istore_n (lv' := [(3, .int 0), (2, .int 1), (0, .ref (am 0)), (1, .int (nI tt))]) hx hb d_M_tick_35 rfl hl (by decide) rfl (fun ls hl => ?_)
  have loop_36 : ∀ (n9 : Nat) (i : Nat) (T : Nat → Int64) (B1 : Nat → Int64) (hi : i ≤ tt) (hT2 : T 210 = lN (tkn i (cnt, fS S Bf)).1) (hA4 : Ag4 (tkn i (cnt, fS S Bf)).1 (fS T B1) (tkn i (cnt, fS S Bf)).2) (hot : oth T S) (hn9 : tt - i < n9) (H : Heap) (locs : List Loc) (ls : Array Slot), va_P D classes [((am 0), .inr (8, [.int 0, .ref (am 1), .ref (am 2), .ref (am 3), .ref (am 4), .ref (am 5), .long bu, .long he, .ref (am 6), .ref (am 7)])), ((am 1), .inl (ct 1, 334, .inr (.inl T))), ((am 6), .inl (ct 1, 9, .inr (.inl B1)))] H → va_D A [((am 0), .inr (8, [.int 0, .ref (am 1), .ref (am 2), .ref (am 3), .ref (am 4), .ref (am 5), .long bu, .long he, .ref (am 6), .ref (am 7)])), ((am 1), .inl (ct 1, 334, .inr (.inl T))), ((am 6), .inl (ct 1, 9, .inr (.inl B1)))] → va_S A s.heap H locs → lv_has ls 5 [(0, .ref (am 0)), (1, .int (nI tt)), (2, .int 1), (3, .int (nI i))] → W p l e (rmW 4 0 0 120) s m args below meth c H locs (0) (0) (MQ below (QcW D [((am 0), .inr (8, [.int th, .ref (am 1), .ref (am 2), .ref (am 3), .ref (am 4), .ref (am 5), .long bu, .long he, .ref (am 6), .ref (am 7)])), ((am 1), .inl (ct 1, 334, .inr (.inl S))), ((am 6), .inl (ct 1, 9, .inr (.inl Bf)))] sz (fun v W1 => ∃ (s1 : Nat → Int64) (before1 : Nat → Int64), v = some (.int (nI ((tkn tt (cnt, fS S Bf)).1))) ∧ W1 = [((am 0), .inr (8, [.int 0, .ref (am 1), .ref (am 2), .ref (am 3), .ref (am 4), .ref (am 5), .long bu, .long he, .ref (am 6), .ref (am 7)])), ((am 1), .inl (ct 1, 334, .inr (.inl s1))), ((am 6), .inl (ct 1, 9, .inr (.inl before1)))] ∧ (s1 210 = lN (tkn tt (cnt, fS S Bf)).1 ∧ Ag4 (tkn tt (cnt, fS S Bf)).1 (fS s1 before1) (tkn tt (cnt, fS S Bf)).2 ∧ oth s1 S))) args s 0 0 A) (F0 m 36 ls []) := by
    intro n9
    induction n9 with
    | zero => intro i T B1 hi hT2 hA4 hot hn9 H locs ls hP hD hS hl; exact absurd hn9 (Nat.not_lt_zero _)
    | succ n9 ih_36 =>
      intro i T B1 hi hT2 hA4 hot hn9 H locs ls hP hD hS hl
      obtain ⟨hFB9, hn9⟩ := tkn_FB (q := (cnt, fS S Bf)) hFB hn8 i
      refine lv_iload_n hx hb d_M_tick_36 rfl (lv_at hl 3 rfl) ?_
      refine lv_iload_n hx hb d_M_tick_37 rfl (lv_at hl 1 rfl) ?_
      refine q_icmp_ge_n (a := i) (b := tt) (tgt := 102) hx hb d_M_tick_38 (by decide) rfl rfl (by omega) (by omega) (fun h_38 => ?_) (fun h_38 => ?_)
      · refine lv_iload_n hx hb d_M_tick_102 rfl (lv_at hl 2 rfl) ?_
        refine lv_if_eq (tgt := 118) hx hb d_M_tick_103 (by decide) (fun h => absurd h (by decide)) (fun _ => ?_)
        refine lv_aload_n hx hb d_M_tick_106 rfl (lv_at hl 0 rfl) ?_
        refine q_get 0 1 i_M rfl hx hb hts hown hE hP rfl (by decide) x_937 rfl d_M_tick_107 ?_
        refine lv_sipush (v := 210) hx hb d_M_tick_110 (by decide) ?_
        refine q_lald (k := 210) 1 hx hb hE hP rfl rfl (by omega) (by decide) d_M_tick_113 ?_
        refine q_topl (v := lN ((tkn tt (cnt, fS S Bf)).1)) (hT2.trans (by rw [show i = tt by omega])) ?_
        refine lv_l2i (v := nI ((tkn tt (cnt, fS S Bf)).1)) hx hb d_M_tick_114 (lN_i _) ?_
        refine lv_goto (tgt := 119) hx hb d_M_tick_115 (by decide) ?_
        exact rW_i hx hb hr hlk hAe hS hP hD (Nat.le_of_ble_eq_true rfl) (Nat.le_of_ble_eq_true rfl) d_M_tick_119 ⟨T, B1, rfl, rfl, ⟨hT2.trans (by rw [show i = tt by omega]), by rw [← show i = tt by omega]; exact hA4, hot⟩⟩
      · refine lv_iload_n hx hb d_M_tick_41 rfl (lv_at hl 2 rfl) ?_
        refine lv_if_eq (tgt := 102) hx hb d_M_tick_42 (by decide) (fun h => absurd h (by decide)) (fun _ => ?_)
        refine lv_aload_n hx hb d_M_tick_45 rfl (lv_at hl 0 rfl) ?_
        refine cWV (As := []) (rest := []) (q9 := 0) (ci := 8) K_M_moves x_1141 hx hb hml hown hts hE hV hS (c_M_moves l D ct st am 0 bu he T B1 ((tkn i (cnt, fS S Bf)).1) (hT2) (hn9) (hFB9.cong (fun a j ha hj => (hA4 a j ha hj).symm)) _) hP hD hA [0, 1, 2] [] (wr := []) rfl rfl (by decide) (by decide) (by decide) rfl hP rfl rfl hl.1 rfl (Nat.le_of_ble_eq_true rfl) d_M_tick_46 (Nat.le_of_ble_eq_true rfl) (Nat.le_of_ble_eq_true rfl) ⟨Nat.le_of_ble_eq_true rfl, Nat.le_of_ble_eq_true rfl⟩ (fun v W1 H locs hpost hP hD hS => ?_)
        obtain ⟨s1_1, before1_1, rfl, rfl, hq_46⟩ := hpost
        have hP : va_P D classes [((am 0), .inr (8, [.int 0, .ref (am 1), .ref (am 2), .ref (am 3), .ref (am 4), .ref (am 5), .long bu, .long he, .ref (am 6), .ref (am 7)])), ((am 1), .inl (ct 1, 334, .inr (.inl s1_1))), ((am 6), .inl (ct 1, 9, .inr (.inl before1_1)))] H := hP
        have hD : va_D A [((am 0), .inr (8, [.int 0, .ref (am 1), .ref (am 2), .ref (am 3), .ref (am 4), .ref (am 5), .long bu, .long he, .ref (am 6), .ref (am 7)])), ((am 1), .inl (ct 1, 334, .inr (.inl s1_1))), ((am 6), .inl (ct 1, 9, .inr (.inl before1_1)))] := hD
        refine lv_iconst (v := 0) hx hb d_M_tick_49 (by decide) ?_
        refine lv_istore (lv' := [(4, .int 0), (0, .ref (am 0)), (1, .int (nI tt)), (2, .int 1), (3, .int (nI i))]) hx hb d_M_tick_50 hl (by decide) rfl (fun ls hl => ?_)
        have loop_52 : ∀ (n9 : Nat) (k : Nat) (r : Nat) (T2 : Nat → Int64) (B2 : Nat → Int64) (hk8 : k ≤ 8) (hI : TI (tkn i (cnt, fS S Bf)) r k (T2 210) (fS T2 B2)) (hot2 : oth T2 S) (hn9 : r < n9) (H : Heap) (locs : List Loc) (ls : Array Slot), va_P D classes [((am 0), .inr (8, [.int 0, .ref (am 1), .ref (am 2), .ref (am 3), .ref (am 4), .ref (am 5), .long bu, .long he, .ref (am 6), .ref (am 7)])), ((am 1), .inl (ct 1, 334, .inr (.inl T2))), ((am 6), .inl (ct 1, 9, .inr (.inl B2)))] H → va_D A [((am 0), .inr (8, [.int 0, .ref (am 1), .ref (am 2), .ref (am 3), .ref (am 4), .ref (am 5), .long bu, .long he, .ref (am 6), .ref (am 7)])), ((am 1), .inl (ct 1, 334, .inr (.inl T2))), ((am 6), .inl (ct 1, 9, .inr (.inl B2)))] → va_S A s.heap H locs → lv_has ls 5 [(0, .ref (am 0)), (1, .int (nI tt)), (2, .int 1), (3, .int (nI i)), (4, .int (nI k))] → W p l e (rmW 4 0 0 120) s m args below meth c H locs (0) (0) (MQ below (QcW D [((am 0), .inr (8, [.int th, .ref (am 1), .ref (am 2), .ref (am 3), .ref (am 4), .ref (am 5), .long bu, .long he, .ref (am 6), .ref (am 7)])), ((am 1), .inl (ct 1, 334, .inr (.inl S))), ((am 6), .inl (ct 1, 9, .inr (.inl Bf)))] sz (fun v W1 => ∃ (s1 : Nat → Int64) (before1 : Nat → Int64), v = some (.int (nI ((tkn tt (cnt, fS S Bf)).1))) ∧ W1 = [((am 0), .inr (8, [.int 0, .ref (am 1), .ref (am 2), .ref (am 3), .ref (am 4), .ref (am 5), .long bu, .long he, .ref (am 6), .ref (am 7)])), ((am 1), .inl (ct 1, 334, .inr (.inl s1))), ((am 6), .inl (ct 1, 9, .inr (.inl before1)))] ∧ (s1 210 = lN (tkn tt (cnt, fS S Bf)).1 ∧ Ag4 (tkn tt (cnt, fS S Bf)).1 (fS s1 before1) (tkn tt (cnt, fS S Bf)).2 ∧ oth s1 S))) args s 0 0 A) (F0 m 52 ls []) := by
          intro n9
          induction n9 with
          | zero => intro k r T2 B2 hk8 hI hot2 hn9 H locs ls hP hD hS hl; exact absurd hn9 (Nat.not_lt_zero _)
          | succ n9 ih_52 =>
            intro k r T2 B2 hk8 hI hot2 hn9 H locs ls hP hD hS hl
            obtain ⟨nn, hn1, hn2, hn3⟩ := hI.cnt
            refine lv_iload hx hb d_M_tick_52 (lv_at hl 4 rfl) ?_
            refine lv_iconst (v := 1) hx hb d_M_tick_54 (by decide) ?_
            refine q_iadd (v := nI (k + 1)) hx hb d_M_tick_55 (nI_add k 1) ?_
            refine lv_i2l (v := lN (k + 1)) hx hb d_M_tick_56 (nI_l (by omega)) ?_
            refine lv_aload_n hx hb d_M_tick_57 rfl (lv_at hl 0 rfl) ?_
            refine q_get 0 1 i_M rfl hx hb hts hown hE hP rfl (by decide) x_937 rfl d_M_tick_58 ?_
            refine lv_sipush (v := 210) hx hb d_M_tick_61 (by decide) ?_
            refine q_lald (k := 210) 1 hx hb hE hP rfl rfl (by omega) (by decide) d_M_tick_64 ?_
            refine q_topl (v := lN nn) (hn1) ?_
            refine W.lcmp hx hb d_M_tick_65 ?_
            refine q_cmp_ge (tgt := 96) hx hb d_M_tick_66 (by decide) (fun h_66 => ?_) (fun h_66 => ?_)
            · have hk9 : nn ≤ k + 1 := by rw [lN_le (by omega) (by omega)] at h_66; exact h_66
              refine lv_iinc (v := (nI (i + 1))) (lv' := [(3, .int (nI (i + 1))), (0, .ref (am 0)), (1, .int (nI tt)), (2, .int 1), (4, .int (nI k))]) hx hb d_M_tick_96 hl (k := 3) rfl (nI_1 _) (by decide) rfl (fun ls hl => ?_)
              refine lv_goto (tgt := 36) hx hb d_M_tick_99 (by decide) ?_
              exact ih_36 (i + 1) T2 B2 (by omega) ((hI.fin hn1 hn2 hk9).1) ((hI.fin hn1 hn2 hk9).2.four) (hot2) (by omega) _ _ _ hP hD hS (lv_sub hl [1, 2, 3, 0] rfl)
            · have hk9 : k + 1 < nn := by rw [lN_le (by omega) (by omega)] at h_66; omega
              have hr9 := (hI.here hn1 hn2 hk9).2
              have ix9 := mt_ix (F := fS T2 B2) hk9 hn2
              refine lv_aload_n hx hb d_M_tick_69 rfl (lv_at hl 0 rfl) ?_
              refine lv_iload hx hb d_M_tick_70 (lv_at hl 4 rfl) ?_
              refine cRV (As := [.int (nI k)]) (rest := []) (q9 := 0) (ci := 8) K_M_doMeet x_1149 hx hb hml hown hts hE hV hS (c_M_doMeet l D ct st am 0 bu he T2 B2 k (by omega)) hP rfl hP rfl rfl hl.1 rfl (Nat.le_of_ble_eq_true rfl) d_M_tick_72 (Nat.le_of_ble_eq_true rfl) (Nat.le_of_ble_eq_true rfl) ⟨Nat.le_of_ble_eq_true rfl, Nat.le_of_ble_eq_true rfl⟩ ?_
              refine q_ifeq_b (tgt := 87) hx hb d_M_tick_75 (by decide) (fun h_75 => ?_) (fun h_75 => ?_)
              · refine lv_iload hx hb d_M_tick_87 (lv_at hl 4 rfl) ?_
                refine lv_iconst (v := 1) hx hb d_M_tick_89 (by decide) ?_
                refine q_iadd (v := nI (k + 1)) hx hb d_M_tick_90 (nI_add k 1) ?_
                refine lv_istore (lv' := [(4, .int (nI (k + 1))), (0, .ref (am 0)), (1, .int (nI tt)), (2, .int 1), (3, .int (nI i))]) hx hb d_M_tick_91 hl (by decide) rfl (fun ls hl => ?_)
                refine lv_goto (tgt := 52) hx hb d_M_tick_93 (by decide) ?_
                exact ih_52 (k + 1) (r - 1) T2 B2 (by first | omega | (rw [hq_81.1]; omega)) (by first | exact hI.on hn1 hn2 hk9 h_75 | (rw [hq_81.1]; exact hI.meet hn1 hn2 hk9 h_75 hq_81.2.1 hq_81.2.2.1)) (by first | exact hot2 | exact hq_81.2.2.2.trans hot2) (by omega) _ _ _ hP hD hS (lv_sub hl [1, 2, 3, 4, 0] rfl)
              · refine lv_aload_n hx hb d_M_tick_78 rfl (lv_at hl 0 rfl) ?_
                refine lv_iload hx hb d_M_tick_79 (lv_at hl 4 rfl) ?_
                refine cWV (As := [.int (nI k)]) (rest := []) (q9 := 0) (ci := 8) K_M_meets x_1153 hx hb hml hown hts hE hV hS (c_M_meets l D ct st am 0 bu he T2 B2 nn k (hn1) (hn2) (hk9) ((hI.here hn1 hn2 hk9).1) _) hP hD hA [0, 1, 2] [] (wr := []) rfl rfl (by decide) (by decide) (by decide) rfl hP rfl rfl hl.1 rfl (Nat.le_of_ble_eq_true rfl) d_M_tick_81 (Nat.le_of_ble_eq_true rfl) (Nat.le_of_ble_eq_true rfl) ⟨Nat.le_of_ble_eq_true rfl, Nat.le_of_ble_eq_true rfl⟩ (fun v W1 H locs hpost hP hD hS => ?_)
                obtain ⟨s1_2, before1_2, rt9_1, rfl, rfl, hq_81⟩ := hpost
                have hP : va_P D classes [((am 0), .inr (8, [.int 0, .ref (am 1), .ref (am 2), .ref (am 3), .ref (am 4), .ref (am 5), .long bu, .long he, .ref (am 6), .ref (am 7)])), ((am 1), .inl (ct 1, 334, .inr (.inl s1_2))), ((am 6), .inl (ct 1, 9, .inr (.inl before1_2)))] H := hP
                have hD : va_D A [((am 0), .inr (8, [.int 0, .ref (am 1), .ref (am 2), .ref (am 3), .ref (am 4), .ref (am 5), .long bu, .long he, .ref (am 6), .ref (am 7)])), ((am 1), .inl (ct 1, 334, .inr (.inl s1_2))), ((am 6), .inl (ct 1, 9, .inr (.inl before1_2)))] := hD
                refine lv_goto (tgt := 91) hx hb d_M_tick_84 (by decide) ?_
                refine lv_istore (lv' := [(4, .int (nI rt9_1)), (0, .ref (am 0)), (1, .int (nI tt)), (2, .int 1), (3, .int (nI i))]) hx hb d_M_tick_91 hl (by decide) rfl (fun ls hl => ?_)
                refine lv_goto (tgt := 52) hx hb d_M_tick_93 (by decide) ?_
                exact ih_52 rt9_1 (r - 1) s1_2 before1_2 (by first | omega | (rw [hq_81.1]; omega)) (by first | exact hI.on hn1 hn2 hk9 h_75 | (rw [hq_81.1]; exact hI.meet hn1 hn2 hk9 h_75 hq_81.2.1 hq_81.2.2.1)) (by first | exact hot2 | exact hq_81.2.2.2.trans hot2) (by omega) _ _ _ hP hD hS (lv_sub hl [1, 2, 3, 4, 0] rfl)
        exact loop_52 _ 0 ((mv (fS T B1) (tkn i (cnt, fS S Bf)).1).1 - 1) s1_1 before1_1 (by omega) (TI.begin hA4 hn9 hFB9 hq_46.1 hq_46.2.1) (hq_46.2.2.trans hot) (Nat.lt_succ_self _) _ _ _ hP hD hS (lv_sub hl [1, 2, 3, 4, 0] rfl)
  exact loop_36 _ 0 S Bf (by omega) (hcnt) (fun _ _ _ _ => rfl) (fun _ _ => rfl) (Nat.lt_succ_self _) _ _ _ hP hD hS (lv_sub hl [2, 3, 1, 0] rfl)
set_option maxHeartbeats 4000000 in
set_option maxRecDepth 100000 in
theorem c_M_tick_bad (l : Launch) (D : va_G) (ct : Nat → ClassId) (st : Nat → Nat) (am : Nat → Nat) (th : Int32) (bu : Int64) (he : Int64) (S : Nat → Int64) (a0 : Int32) (hb0 : ¬ w_in a0.toInt64 1 100) (sz : Nat) : Met l y_M_tick (wsy y_M_tick b_M_tick 5 (some .int)) (rmW 1 0 0 25) (PcW D ct st [.ref (am 0), .int a0] [((am 0), .inr (8, [.int th, .ref (am 1), .ref (am 2), .ref (am 3), .ref (am 4), .ref (am 5), .long bu, .long he, .ref (am 6), .ref (am 7)])), ((am 1), .inl (ct 1, 334, .inr (.inl S)))] sz) (QcW D [((am 0), .inr (8, [.int th, .ref (am 1), .ref (am 2), .ref (am 3), .ref (am 4), .ref (am 5), .long bu, .long he, .ref (am 6), .ref (am 7)])), ((am 1), .inl (ct 1, 334, .inr (.inl S)))] sz (fun v W1 => v = some (.int 0) ∧ W1 = [((am 0), .inr (8, [.int 1, .ref (am 1), .ref (am 2), .ref (am 3), .ref (am 4), .ref (am 5), .long bu, .long he, .ref (am 6), .ref (am 7)])), ((am 1), .inl (ct 1, 334, .inr (.inl S)))] ∧ (True))) 0 0 (va_A [((am 0), .inr (8, [.int th, .ref (am 1), .ref (am 2), .ref (am 3), .ref (am 4), .ref (am 5), .long bu, .long he, .ref (am 6), .ref (am 7)])), ((am 1), .inl (ct 1, 334, .inr (.inl S)))] sz) := by
  refine enterW (by decide) (Nat.le_of_ble_eq_true rfl) ?_
  intro p e s m args below meth c ls A hx hb hr hml hown hts hlk hin hsz hAe hP hD hA hE hV hS hl
  have hl : lv_has ls 5 [(0, .ref (am 0)), (1, .int a0)] := hl
  refine lv_aload_n hx hb d_M_tick_0 rfl (lv_at hl 0 rfl) ?_
  refine lv_iload_n hx hb d_M_tick_1 rfl (lv_at hl 1 rfl) ?_
  refine lv_i2l hx hb d_M_tick_2 rfl ?_
  refine lv_lconst (v := 1) hx hb d_M_tick_3 (by decide) ?_
  refine lv_ldc2 (v := 100) hx hb hown (hts _ (List.mem_cons_of_mem _ x_1011)) d_M_tick_4 ?_
  refine cRS (As := [.long a0.toInt64, .long 1, .long 100]) (rest := [.ref (am 0)]) K_M_in x_978 hx hb hml hown hts hE hV hS (c_M_in l D ct st a0.toInt64 1 100) (fun k q h => by simp at h) rfl hl.1 rfl (Nat.le_of_ble_eq_true rfl) d_M_tick_7 (Nat.le_of_ble_eq_true rfl) (Nat.le_of_ble_eq_true rfl) ⟨Nat.le_of_ble_eq_true rfl, Nat.le_of_ble_eq_true rfl⟩ ?_
  refine q_ifeq_b (tgt := 17) hx hb d_M_tick_10 (by decide) (fun h_10 => ?_) (fun h_10 => absurd h_10 hb0)
  refine lv_iconst (v := 1) hx hb d_M_tick_17 (by decide) ?_
  refine q_put (ty := .int) 0 0 (ws1 := [((am 0), .inr (8, [.int 1, .ref (am 1), .ref (am 2), .ref (am 3), .ref (am 4), .ref (am 5), .long bu, .long he, .ref (am 6), .ref (am 7)])), ((am 1), .inl (ct 1, 334, .inr (.inl S)))]) t_M i_M t_M_ok n_M rfl hx hb hts hown hE hP hD hS rfl (by decide) x_936 rfl (by decide +kernel) (rfl) rfl (Nat.le_of_ble_eq_true rfl) rfl d_M_tick_18 (fun H locs hP hD hS => ?_)
  refine lv_aload_n hx hb d_M_tick_21 rfl (lv_at hl 0 rfl) ?_
  refine q_get 0 0 i_M rfl hx hb hts hown hE hP rfl (by decide) x_936 rfl d_M_tick_22 ?_
  refine lv_if_ne (tgt := 32) hx hb d_M_tick_25 (by decide) (fun _ => ?_) (fun h => absurd h (by decide))
  refine lv_iconst (v := 0) hx hb d_M_tick_32 (by decide) ?_
  refine lv_istore_n (lv' := [(2, .int 0), (0, .ref (am 0)), (1, .int a0)]) hx hb d_M_tick_33 rfl hl (by decide) rfl (fun ls hl => ?_)
  refine lv_iconst (v := 0) hx hb d_M_tick_34 (by decide) ?_
  refine lv_istore_n (lv' := [(3, .int 0), (2, .int 0), (0, .ref (am 0)), (1, .int a0)]) hx hb d_M_tick_35 rfl hl (by decide) rfl (fun ls hl => ?_)
  refine lv_iload_n hx hb d_M_tick_36 rfl (lv_at hl 0 rfl) ?_
  refine lv_iload_n hx hb d_M_tick_37 rfl (lv_at hl 3 rfl) ?_
  refine lv_icmp_ge (tgt := 102) hx hb d_M_tick_38 (by decide) (fun h_38 => ?_) (fun h_38 => ?_)
  · refine lv_iload_n hx hb d_M_tick_102 rfl (lv_at hl 1 rfl) ?_
    refine lv_if_eq (tgt := 118) hx hb d_M_tick_103 (by decide) (fun _ => ?_) (fun h => absurd h (by decide))
    refine lv_iconst (v := 0) hx hb d_M_tick_118 (by decide) ?_
    exact rW_i hx hb hr hlk hAe hS hP hD (Nat.le_of_ble_eq_true rfl) (Nat.le_of_ble_eq_true rfl) d_M_tick_119 ⟨rfl, rfl, trivial⟩
  · refine lv_iload_n hx hb d_M_tick_41 rfl (lv_at hl 1 rfl) ?_
    refine lv_if_eq (tgt := 102) hx hb d_M_tick_42 (by decide) (fun _ => ?_) (fun h => absurd h (by decide))
    refine lv_iload_n hx hb d_M_tick_102 rfl (lv_at hl 1 rfl) ?_
    refine lv_if_eq (tgt := 118) hx hb d_M_tick_103 (by decide) (fun _ => ?_) (fun h => absurd h (by decide))
    refine lv_iconst (v := 0) hx hb d_M_tick_118 (by decide) ?_
    exact rW_i hx hb hr hlk hAe hS hP hD (Nat.le_of_ble_eq_true rfl) (Nat.le_of_ble_eq_true rfl) d_M_tick_119 ⟨rfl, rfl, trivial⟩
