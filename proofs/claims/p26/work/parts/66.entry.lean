theorem fl_in {r : Nat} (h : r < 100) : w_in (nI r).toInt64 (-100) 100 := by
  rw [nI_l (by omega)]
  have e1 : (-100 : Int64).toInt = -100 := by decide
  have e2 : (100 : Int64).toInt = 100 := by decide
  constructor
  · rw [Int64.le_iff_toInt_le, lN_toInt (by omega)]; omega
  · rw [Int64.le_iff_toInt_le, lN_toInt (by omega)]; omega
set_option maxHeartbeats 2000000 in
set_option maxRecDepth 100000 in
theorem g_enter {p : Program} {e : Env} {R : Room} {s : State} {m : MethodId} {below : List Frame} {meth : Method} {c : Code} {H : Heap} {locs : List Loc} {cells slots : Nat} {Q : State → Prop} {ls : Array Slot} {A : Nat → Prop} {a0 : Cond} (l : Launch) (D : va_G) (ct : Nat → ClassId) (st : Nat → Nat) {b9 L9 : Nat} {xs : Nat → Int32} (C0 : LX p l R s m c b9 L9 xs D ct st A a0) (a : AD) {w : NW} {x : SC} {sl : Nat → Option (SD × NW)} {k : Nat}  (hI : PI k w) (hk : k + 4 < 512) (hro : cells ≤ R.cells ∧ slots ≤ R.slots) (hT : ST D ct A s a w x sl H locs) (hl : lv_has ls 13 [(0, .ref b9), (1, .ref (a.wa 0))])
    (kk : ∀ (w4 : NW) (n9 : Nat) (v : Int32) (H1 : Heap) (locs1 : List Loc) (ls1 : Array Slot), w4.T.n = n9 → ¬ w4.nd = 0 → w4.cnt = w.cnt → PI (k + 4) w4 → ST D ct A s a w4 x sl H1 locs1 → lv_has ls1 13 [(0, .ref b9), (1, .ref (a.wa 0)), (2, .int v), (3, .int (nI n9))] → W p l e R s m #[Value.ref b9] below meth c H1 locs1 cells slots Q (F0 m 150 ls1 []))
    : W p l e R s m #[Value.ref b9] below meth c H locs cells slots Q (F0 m 8 ls []) := by
  have C1 := C0
  obtain ⟨hx, hb, hml, hown, hts, hE, hV, hA, hXs, hbl, hbA, hRf, hRl, hL9⟩ := C1
  refine lv_aload_n hx hb d_L_law_8 rfl (lv_at hl 0 rfl) ?_
  refine lv_iconst (v := 0) hx hb d_L_law_9 (by decide) ?_
  refine q_topi (v := nI 0) (by decide) ?_
  refine v_L_cell l D ct st C0 0 (by omega) hT.2.2 ⟨by omega, by omega⟩ hl.1 (Nat.le_of_ble_eq_true rfl) d_L_law_10 (fun v9 => ?_)
  refine lv_istore_n (lv' := [(2, .int v9), (0, .ref b9), (1, .ref (a.wa 0))]) hx hb d_L_law_13 rfl hl (by decide) rfl (fun ls hl => ?_)
  refine lv_iconst (v := 2) hx hb d_L_law_14 (by decide) ?_
  refine lv_iload_n hx hb d_L_law_15 rfl (lv_at hl 0 rfl) ?_
  refine lv_bipush (v := 8) hx hb d_L_law_16 (by decide) ?_
  refine v_L_low l D ct st C0 8 (by decide) ⟨by omega, by omega⟩ hT.2.2 ⟨by omega, by omega⟩ hl.1 (Nat.le_of_ble_eq_true rfl) d_L_law_18 (fun r_18 hr_18 => ?_)
  refine q_iadd (v := nI (2 + r_18)) hx hb d_L_law_21 (nI_add 2 r_18) ?_
  refine lv_istore_n (lv' := [(3, .int (nI (2 + r_18))), (2, .int v9), (0, .ref b9), (1, .ref (a.wa 0))]) hx hb d_L_law_22 rfl hl (by decide) rfl (fun ls hl => ?_)
  refine lv_aload_n hx hb d_L_law_23 rfl (lv_at hl 3 rfl) ?_
  refine lv_iload_n hx hb d_L_law_24 rfl (lv_at hl 0 rfl) ?_
  refine lv_iload_n hx hb d_L_law_25 rfl (lv_at hl 1 rfl) ?_
  refine lv_iconst (v := 3) hx hb d_L_law_26 (by decide) ?_
  refine lv_ishr hx hb d_L_law_27 ?_
  refine lv_iconst (v := 2) hx hb d_L_law_28 (by decide) ?_
  refine v_L_low l D ct st C0 2 (by decide) ⟨by omega, by omega⟩ hT.2.2 ⟨by omega, by omega⟩ hl.1 (Nat.le_of_ble_eq_true rfl) d_L_law_29 (fun r_29 hr_29 => ?_)
  refine lv_iload_n hx hb d_L_law_32 rfl (lv_at hl 1 rfl) ?_
  refine lv_iconst (v := 4) hx hb d_L_law_33 (by decide) ?_
  refine lv_ishr hx hb d_L_law_34 ?_
  refine lv_iconst (v := 2) hx hb d_L_law_35 (by decide) ?_
  refine v_L_low l D ct st C0 2 (by decide) ⟨by omega, by omega⟩ hT.2.2 ⟨by omega, by omega⟩ hl.1 (Nat.le_of_ble_eq_true rfl) d_L_law_36 (fun r_36 hr_36 => ?_)
  refine u_shape l D ct st C0 a hI (by omega) (2 + r_18) r_29 r_36 ⟨by omega, by omega⟩ (by omega) (by omega) ⟨by omega, by omega⟩ hT hl.1 (Nat.le_of_ble_eq_true rfl) d_L_law_39 (fun w1 H locs hI1 hs1 hT => ?_)
  refine lv_aload_n hx hb d_L_law_42 rfl (lv_at hl 3 rfl) ?_
  refine lv_iload_n hx hb d_L_law_43 rfl (lv_at hl 1 rfl) ?_
  refine lv_iconst (v := 5) hx hb d_L_law_44 (by decide) ?_
  refine lv_ishr hx hb d_L_law_45 ?_
  refine lv_iconst (v := 3) hx hb d_L_law_46 (by decide) ?_
  refine v_L_low l D ct st C0 3 (by decide) ⟨by omega, by omega⟩ hT.2.2 ⟨by omega, by omega⟩ hl.1 (Nat.le_of_ble_eq_true rfl) d_L_law_47 (fun r_47 hr_47 => ?_)
  refine u_gas l D ct st C0 a hI1 (by omega) r_47 hr_47 ⟨by omega, by omega⟩ hT hl.1 (Nat.le_of_ble_eq_true rfl) d_L_law_50 (fun w2 H locs hI2 hs2 hT => ?_)
  refine lv_aload_n hx hb d_L_law_53 rfl (lv_at hl 3 rfl) ?_
  refine lv_iload_n hx hb d_L_law_54 rfl (lv_at hl 1 rfl) ?_
  refine lv_bipush (v := 7) hx hb d_L_law_55 (by decide) ?_
  refine lv_ishr hx hb d_L_law_57 ?_
  refine lv_sipush (v := 400) hx hb d_L_law_58 (by decide) ?_
  refine v_L_low l D ct st C0 400 (by decide) ⟨by omega, by omega⟩ hT.2.2 ⟨by omega, by omega⟩ hl.1 (Nat.le_of_ble_eq_true rfl) d_L_law_61 (fun r_61 hr_61 => ?_)
  refine lv_iload_n hx hb d_L_law_64 rfl (lv_at hl 1 rfl) ?_
  refine lv_bipush (v := 9) hx hb d_L_law_65 (by decide) ?_
  refine lv_ishr hx hb d_L_law_67 ?_
  refine lv_bipush (v := 101) hx hb d_L_law_68 (by decide) ?_
  refine v_L_low l D ct st C0 101 (by decide) ⟨by omega, by omega⟩ hT.2.2 ⟨by omega, by omega⟩ hl.1 (Nat.le_of_ble_eq_true rfl) d_L_law_70 (fun r_70 hr_70 => ?_)
  refine lv_iload_n hx hb d_L_law_73 rfl (lv_at hl 1 rfl) ?_
  refine lv_bipush (v := 11) hx hb d_L_law_74 (by decide) ?_
  refine lv_ishr hx hb d_L_law_76 ?_
  refine lv_bipush (v := 30) hx hb d_L_law_77 (by decide) ?_
  refine v_L_low l D ct st C0 30 (by decide) ⟨by omega, by omega⟩ hT.2.2 ⟨by omega, by omega⟩ hl.1 (Nat.le_of_ble_eq_true rfl) d_L_law_79 (fun r_79 hr_79 => ?_)
  refine u_ignition l D ct st C0 a hI2 (by omega) r_61 r_70 r_79 (by omega) (by omega) (by omega) ⟨by omega, by omega⟩ hT hl.1 (Nat.le_of_ble_eq_true rfl) d_L_law_82 (fun w3 H locs hI3 hs3 hT => ?_)
  refine lv_aload_n hx hb d_L_law_85 rfl (lv_at hl 3 rfl) ?_
  refine lv_iconst (v := 1) hx hb d_L_law_86 (by decide) ?_
  refine lv_iload_n hx hb d_L_law_87 rfl (lv_at hl 1 rfl) ?_
  refine lv_bipush (v := 8) hx hb d_L_law_88 (by decide) ?_
  refine lv_ishr hx hb d_L_law_90 ?_
  refine lv_bipush (v := 10) hx hb d_L_law_91 (by decide) ?_
  refine v_L_low l D ct st C0 10 (by decide) ⟨by omega, by omega⟩ hT.2.2 ⟨by omega, by omega⟩ hl.1 (Nat.le_of_ble_eq_true rfl) d_L_law_93 (fun r_93 hr_93 => ?_)
  refine q_iadd (v := nI (1 + r_93)) hx hb d_L_law_96 (nI_add 1 r_93) ?_
  refine lv_iconst (v := 1) hx hb d_L_law_97 (by decide) ?_
  refine lv_iload_n hx hb d_L_law_98 rfl (lv_at hl 1 rfl) ?_
  refine lv_bipush (v := 10) hx hb d_L_law_99 (by decide) ?_
  refine lv_ishr hx hb d_L_law_101 ?_
  refine lv_bipush (v := 50) hx hb d_L_law_102 (by decide) ?_
  refine v_L_low l D ct st C0 50 (by decide) ⟨by omega, by omega⟩ hT.2.2 ⟨by omega, by omega⟩ hl.1 (Nat.le_of_ble_eq_true rfl) d_L_law_104 (fun r_104 hr_104 => ?_)
  refine q_iadd (v := nI (1 + r_104)) hx hb d_L_law_107 (nI_add 1 r_104) ?_
  refine lv_iload_n hx hb d_L_law_108 rfl (lv_at hl 1 rfl) ?_
  refine lv_bipush (v := 12) hx hb d_L_law_109 (by decide) ?_
  refine lv_ishr hx hb d_L_law_111 ?_
  refine lv_bipush (v := 21) hx hb d_L_law_112 (by decide) ?_
  refine v_L_low l D ct st C0 21 (by decide) ⟨by omega, by omega⟩ hT.2.2 ⟨by omega, by omega⟩ hl.1 (Nat.le_of_ble_eq_true rfl) d_L_law_114 (fun r_114 hr_114 => ?_)
  refine lv_iconst (v := 1) hx hb d_L_law_117 (by decide) ?_
  refine lv_iload_n hx hb d_L_law_118 rfl (lv_at hl 1 rfl) ?_
  refine lv_bipush (v := 14) hx hb d_L_law_119 (by decide) ?_
  refine lv_ishr hx hb d_L_law_121 ?_
  refine lv_bipush (v := 50) hx hb d_L_law_122 (by decide) ?_
  refine v_L_low l D ct st C0 50 (by decide) ⟨by omega, by omega⟩ hT.2.2 ⟨by omega, by omega⟩ hl.1 (Nat.le_of_ble_eq_true rfl) d_L_law_124 (fun r_124 hr_124 => ?_)
  refine q_iadd (v := nI (1 + r_124)) hx hb d_L_law_127 (nI_add 1 r_124) ?_
  refine lv_iload_n hx hb d_L_law_128 rfl (lv_at hl 1 rfl) ?_
  refine lv_bipush (v := 6) hx hb d_L_law_129 (by decide) ?_
  refine lv_ishr hx hb d_L_law_131 ?_
  refine lv_sipush (v := 2001) hx hb d_L_law_132 (by decide) ?_
  refine v_L_low l D ct st C0 2001 (by decide) ⟨by omega, by omega⟩ hT.2.2 ⟨by omega, by omega⟩ hl.1 (Nat.le_of_ble_eq_true rfl) d_L_law_135 (fun r_135 hr_135 => ?_)
  refine lv_iload_n hx hb d_L_law_138 rfl (lv_at hl 1 rfl) ?_
  refine lv_bipush (v := 9) hx hb d_L_law_139 (by decide) ?_
  refine lv_ishr hx hb d_L_law_141 ?_
  refine lv_bipush (v := 100) hx hb d_L_law_142 (by decide) ?_
  refine v_L_low l D ct st C0 100 (by decide) ⟨by omega, by omega⟩ hT.2.2 ⟨by omega, by omega⟩ hl.1 (Nat.le_of_ble_eq_true rfl) d_L_law_144 (fun r_144 hr_144 => ?_)
  refine u_newpipe l D ct st C0 a hI3 (by omega) (1 + r_93) (1 + r_104) r_114 (1 + r_124) r_135 (nI r_144) ⟨by omega, by omega⟩ ⟨by omega, by omega⟩ (by omega) ⟨by omega, by omega⟩ (by omega) (fl_in hr_144) ⟨by omega, by omega⟩ hT hl.1 (Nat.le_of_ble_eq_true rfl) d_L_law_147 (fun w4 H locs hI4 hs4 hT => ?_)
  exact kk w4 (2 + r_18) v9 H locs ls (hs4.1.trans (hs3.1.trans (hs2.1.trans hs1.1))) hs4.2.1 (hs4.2.2.trans (hs3.2.2.trans (hs2.2.2.trans hs1.2.2))) hI4 hT (lv_sub hl [2, 3, 1, 0] rfl)
set_option maxHeartbeats 2000000 in
set_option maxRecDepth 100000 in
theorem g_150 {p : Program} {e : Env} {R : Room} {s : State} {m : MethodId} {below : List Frame} {meth : Method} {c : Code} {H : Heap} {locs : List Loc} {cells slots : Nat} {Q : State → Prop} {ls : Array Slot} {A : Nat → Prop} {a0 : Cond} (l : Launch) (D : va_G) (ct : Nat → ClassId) (st : Nat → Nat) {b9 L9 : Nat} {xs : Nat → Int32} (C0 : LX p l R s m c b9 L9 xs D ct st A a0) (a : AD) (n9 : Nat) (v : Int32) {w : NW} {x : SC} {sl : Nat → Option (SD × NW)} (hroom : 10000 ≤ R.cells ∧ 400000 ≤ R.slots)
    (hend : ∀ (H : Heap) (locs : List Loc) (ls : Array Slot) (cells slots : Nat), cells ≤ R.cells → slots ≤ R.slots → va_S A s.heap H locs → W p l e R s m #[Value.ref b9] below meth c H locs cells slots Q (F0 m 779 ls [.int 1]))
    (hc : cells ≤ 200 ∧ slots ≤ 6000) (hn : w.T.n = n9) (hnd : ¬ w.nd = 0) (hcnt : w.cnt = 0) (hI : PI 4 w) (hIK : InvK x sl) (hT : ST D ct A s a w x sl H locs) (hl : lv_has ls 13 [(0, .ref b9), (1, .ref (a.wa 0)), (2, .int v), (3, .int (nI n9))]) : W p l e R s m #[Value.ref b9] below meth c H locs cells slots Q (F0 m 150 ls []) := by
  have C1 := C0
  obtain ⟨hx, hb, hml, hown, hts, hE, hV, hA, hXs, hbl, hbA, hRf, hRl, hL9⟩ := C1
  have j164 : ∀ most : Nat, most ≤ 80 → W p l e R s m #[Value.ref b9] below meth c H locs cells slots Q (F0 m 164 ls [.int (nI most)]) := by
    intro most hmost
    refine lv_istore (lv' := [(4, .int (nI most)), (0, .ref b9), (1, .ref (a.wa 0)), (2, .int v), (3, .int (nI n9))]) hx hb d_L_law_164 hl (by decide) rfl (fun ls hl => ?_)
    refine lv_iconst (v := 1) hx hb d_L_law_166 (by decide) ?_
    refine lv_istore (lv' := [(5, .int 1), (4, .int (nI most)), (0, .ref b9), (1, .ref (a.wa 0)), (2, .int v), (3, .int (nI n9))]) hx hb d_L_law_167 hl (by decide) rfl (fun ls hl => ?_)
    refine lv_iconst (v := 0) hx hb d_L_law_169 (by decide) ?_
    refine q_topi (v := nI w.cnt) (by rw [hcnt]; decide) ?_
    refine lv_istore (lv' := [(6, .int (nI w.cnt)), (5, .int 1), (4, .int (nI most)), (0, .ref b9), (1, .ref (a.wa 0)), (2, .int v), (3, .int (nI n9))]) hx hb d_L_law_170 hl (by decide) rfl (fun ls hl => ?_)
    refine lv_iconst (v := 1) hx hb d_L_law_172 (by decide) ?_
    refine q_topi (v := nI 1) (by decide) ?_
    refine lv_istore (lv' := [(7, .int (nI 1)), (6, .int (nI w.cnt)), (5, .int 1), (4, .int (nI most)), (0, .ref b9), (1, .ref (a.wa 0)), (2, .int v), (3, .int (nI n9))]) hx hb d_L_law_173 hl (by decide) rfl (fun ls hl => ?_)
    exact law_loop l D ct st C0 a n9 most v hmost hroom hend 100 1 w x sl H locs ls cells slots (by omega) (by omega) (by omega) (by omega) hI.mono hn hnd hIK hT (lv_sub hl [4, 5, 6, 7, 3, 2, 1, 0] rfl)
  refine lv_aload_n hx hb d_L_law_150 rfl (lv_at hl 0 rfl) ?_
  refine va_slen hx hb hXs hbl hbA hT.2.2 d_L_law_151 ?_
  refine lv_bipush (v := 80) hx hb d_L_law_152 (by decide) ?_
  refine q_icmp_ge_n (a := L9) (b := 80) (tgt := 162) hx hb d_L_law_154 (by decide) rfl (by decide) (by omega) (by omega) (fun h_154 => ?_) (fun h_154 => ?_)
  · refine lv_bipush (v := 80) hx hb d_L_law_162 (by decide) ?_
    refine q_topi (v := nI 80) (by decide) ?_
    exact j164 80 (Nat.le_refl _)
  · refine lv_aload_n hx hb d_L_law_157 rfl (lv_at hl 0 rfl) ?_
    refine va_slen hx hb hXs hbl hbA hT.2.2 d_L_law_158 ?_
    refine lv_goto (tgt := 164) hx hb d_L_law_159 (by decide) ?_
    exact j164 L9 (by omega)
