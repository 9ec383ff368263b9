section QN
variable {p : Program} {l : Launch} {e : Env} {R : Room} {s : State} {m : MethodId} {args : Array Value} {below : List Frame} {meth : Method} {c : Code} {H : Heap} {locs : List Loc} {cells slots : Nat} {Q : State → Prop}
variable {cc : ByteArray} {pc : Nat} {ls : Array Slot} {rest : List Value} {D : va_G} {A : Nat → Prop} {ct : Nat → ClassId} {ws : va_W} {H0 : Heap}
theorem q_newJ (N : Nat) {n : Int32} (hx : p.tables.exec = Jvm.exec) (hb : c.code = cc) (harr : (Cond.arrayClass .long).before args s = true) (hE : EV D ct s) (hP : va_P D classes ws H) (hD : va_D A ws) (hS : va_S A H0 H locs) (hA : ∀ q : Nat, H0.size ≤ q → A q) (hn : ¬ n < 0) (hN : n.toNatClampNeg = N) (hby : N * componentBytes .long ≤ 536870912) (hcells : cells + 1 ≤ R.cells) (hslots : slots + N ≤ R.slots) (hdg : decode cc pc = .ok (.newarray .long, 2))
    (kk : ∀ (q : Nat) (H1 : Heap), va_P D classes (ws ++ [(q, .inl (ct 1, N, .inr (.inl (fun _ => 0))))]) H1 → va_D A (ws ++ [(q, .inl (ct 1, N, .inr (.inl (fun _ => 0))))]) → va_S A H0 H1 locs → W p l e R s m args below meth c H1 locs (cells + 1) (slots + N) Q (F0 m (pc + 2) ls (.ref q :: rest))) :
    W p l e R s m args below meth c H locs cells slots Q (F0 m pc ls (.int n :: rest)) := by
  refine va_newa hx hb (atype := .long) (ty := .long) harr rfl hE.K hP hD hS hA (a0 := (N, .inr (.inl (fun _ => 0)))) (N' := N) (fun _ => rfl) hn hN hby hcells hslots hdg fun q cA H1 hK1 hP1 hD1 hS1 => ?_
  have e9 : cA = ct 1 := Option.some.inj ((hK1.2 5 (cA, .long) rfl).2.symm.trans (hE.K.2 1 _ rfl).2)
  subst e9
  exact kk q H1 hP1 hD1 hS1
theorem q_newI (N : Nat) {n : Int32} (hx : p.tables.exec = Jvm.exec) (hb : c.code = cc) (harr : (Cond.arrayClass .int).before args s = true) (hE : EV D ct s) (hP : va_P D classes ws H) (hD : va_D A ws) (hS : va_S A H0 H locs) (hA : ∀ q : Nat, H0.size ≤ q → A q) (hn : ¬ n < 0) (hN : n.toNatClampNeg = N) (hby : N * componentBytes .int ≤ 536870912) (hcells : cells + 1 ≤ R.cells) (hslots : slots + N ≤ R.slots) (hdg : decode cc pc = .ok (.newarray .int, 2))
    (kk : ∀ (q : Nat) (H1 : Heap), va_P D classes (ws ++ [(q, .inl (ct 0, N, .inl (fun _ => 0)))]) H1 → va_D A (ws ++ [(q, .inl (ct 0, N, .inl (fun _ => 0)))]) → va_S A H0 H1 locs → W p l e R s m args below meth c H1 locs (cells + 1) (slots + N) Q (F0 m (pc + 2) ls (.ref q :: rest))) :
    W p l e R s m args below meth c H locs cells slots Q (F0 m pc ls (.int n :: rest)) := by
  refine va_newa hx hb (atype := .int) (ty := .int) harr rfl hE.K hP hD hS hA (a0 := (N, .inl (fun _ => 0))) (N' := N) (fun _ => rfl) hn hN hby hcells hslots hdg fun q cA H1 hK1 hP1 hD1 hS1 => ?_
  have e9 : cA = ct 0 := Option.some.inj ((hK1.2 5 (cA, .int) rfl).2.symm.trans (hE.K.2 0 _ rfl).2)
  subst e9
  exact kk q H1 hP1 hD1 hS1
theorem q_newZ (N : Nat) {n : Int32} (hx : p.tables.exec = Jvm.exec) (hb : c.code = cc) (harr : (Cond.arrayClass .boolean).before args s = true) (hE : EV D ct s) (hP : va_P D classes ws H) (hD : va_D A ws) (hS : va_S A H0 H locs) (hA : ∀ q : Nat, H0.size ≤ q → A q) (hn : ¬ n < 0) (hN : n.toNatClampNeg = N) (hby : N * componentBytes .boolean ≤ 536870912) (hcells : cells + 1 ≤ R.cells) (hslots : slots + N ≤ R.slots) (hdg : decode cc pc = .ok (.newarray .boolean, 2))
    (kk : ∀ (q : Nat) (H1 : Heap), va_P D classes (ws ++ [(q, .inl (ct 2, N, .inl (fun _ => 0)))]) H1 → va_D A (ws ++ [(q, .inl (ct 2, N, .inl (fun _ => 0)))]) → va_S A H0 H1 locs → W p l e R s m args below meth c H1 locs (cells + 1) (slots + N) Q (F0 m (pc + 2) ls (.ref q :: rest))) :
    W p l e R s m args below meth c H locs cells slots Q (F0 m pc ls (.int n :: rest)) := by
  refine va_newa hx hb (atype := .boolean) (ty := .boolean) harr rfl hE.K hP hD hS hA (a0 := (N, .inl (fun _ => 0))) (N' := N) (fun _ => rfl) hn hN hby hcells hslots hdg fun q cA H1 hK1 hP1 hD1 hS1 => ?_
  have e9 : cA = ct 2 := Option.some.inj ((hK1.2 5 (cA, .boolean) rfl).2.symm.trans (hE.K.2 2 _ rfl).2)
  subst e9
  exact kk q H1 hP1 hD1 hS1
theorem q_oinit {a0 : Cond} {own : String} {idx nL a : Nat} {lv : List (Nat × Value)} (hx : p.tables.exec = Jvm.exec) (hb : c.code = cc) (hml : c.maxLocals = nL) (hown : s.vm.findClass own = some m.cls) (hts : ∀ w ∈ a0 :: wd, w.before args s = true) (hl : lv_has ls nL lv) (hlink : Cond.methodLink own idx Lib.objectInit ∈ wd) (hdg : decode cc pc = .ok (.invokespecial idx, 3)) (h1 : 1 ≤ R.frames) (h2 : (rest.map fun v => v.category).sum + 12 ≤ R.locals)
    (kk : W p l e R s m args below meth c H locs cells slots Q (F0 m (pc + 3) ls rest)) : W p l e R s m args below meth c H locs cells slots Q (F0 m pc ls (.ref a :: rest)) := by
  refine W.objInit hx hb hown (hts _ (List.mem_cons_of_mem _ hlink)) (hts _ (List.mem_cons_of_mem _ x_24)) (hts _ (List.mem_cons_of_mem _ x_25)) rfl (by rw [hml]; exact hl.1) rfl hdg h1 (by simpa [JFrame.monitorRoom, F0] using h2) ?_
  exact W.eq (g2 := F0 m (pc + 3) ls rest) rfl kk
end QN

def z0 : Nat → Int64 := fun _ => 0
set_option maxHeartbeats 4000000 in
set_option maxRecDepth 100000 in
theorem c_M_init (l : Launch) (D : va_G) (ct : Nat → ClassId) (st : Nat → Nat) (ad : Nat) (sz : Nat) : Met l y_M_init (wsy y_M_init b_M_init 1 (none)) (rmW 1 7 2006 24) (PcW D ct st [.ref ad] [(ad, .inr (8, [.int 0, .null, .null, .null, .null, .null, .long 0, .long 0, .null, .null]))] sz) (QcW D [(ad, .inr (8, [.int 0, .null, .null, .null, .null, .null, .long 0, .long 0, .null, .null]))] sz (fun v W1 => ∃ (am1 : Nat → Nat) (s1 : Nat → Int64), v = none ∧ W1 = [((am1 0), .inr (8, [.int 0, .ref (am1 1), .ref (am1 2), .ref (am1 3), .ref (am1 4), .ref (am1 5), .long 0, .long 0, .ref (am1 6), .ref (am1 7)])), ((am1 1), .inl (ct 1, 334, .inr (.inl s1))), ((am1 2), .inl (ct 1, 1336, .inr (.inl (fun _ => 0)))), ((am1 3), .inl (ct 2, 4, .inl (fun _ => 0))), ((am1 4), .inl (ct 1, 132, .inr (.inl (fun _ => 0)))), ((am1 5), .inl (ct 1, 128, .inr (.inl (fun _ => 0)))), ((am1 6), .inl (ct 1, 9, .inr (.inl (fun _ => 0)))), ((am1 7), .inl (ct 1, 63, .inr (.inl (fun _ => 0))))] ∧ (am1 0 = ad ∧ s1 4 = lN 8 ∧ s1 5 = lN 1 ∧ s1 6 = lN 1 ∧ s1 7 = 0 ∧ (∀ j, j < 32 → s1 (8 + j) = 1000 ∧ s1 (40 + j) = 0 ∧ s1 (72 + j) = 2000 ∧ s1 (104 + j) = 0 ∧ s1 (146 + j) = 0 ∧ s1 (178 + j) = 0) ∧ (∀ j, j < 6 → s1 (136 + j) = 0) ∧ (s1 142 = 1000 * lN 8 ∧ s1 143 = 0 ∧ s1 144 = 2000 * lN 8 ∧ s1 145 = 0) ∧ ∀ j, j < 4 ∨ 210 ≤ j → s1 j = vp_updL z0 1 100000 j))) 7 2006 (va_A [(ad, .inr (8, [.int 0, .null, .null, .null, .null, .null, .long 0, .long 0, .null, .null]))] sz) := by
  refine enterW (by decide) (Nat.le_of_ble_eq_true rfl) ?_
  intro p e s m args below meth c ls A hx hb hr hml hown hts hlk hin hsz hAe hP hD hA hE hV hS hl
  have hl : lv_has ls 1 [(0, .ref ad)] := hl
  refine lv_aload_n hx hb d_M_init_0 rfl (lv_at hl 0 rfl) ?_
  refine q_oinit hx hb hml hown hts hl x_928 d_M_init_1 (Nat.le_of_ble_eq_true rfl) (Nat.le_of_ble_eq_true rfl) ?_
  refine lv_aload_n hx hb d_M_init_4 rfl (lv_at hl 0 rfl) ?_
  refine lv_sipush (v := 334) hx hb d_M_init_5 (by decide) ?_
  refine q_newJ 334 hx hb (hts _ (List.mem_cons_of_mem _ x_123)) hE hP hD hS hA (by decide) (by decide) (by decide) (Nat.le_of_ble_eq_true rfl) (Nat.le_of_ble_eq_true rfl) d_M_init_8 (fun q_1 H hP hD hS => ?_)
  refine q_putF (ty := .array (.long)) 0 1 (ws1 := [(ad, .inr (8, [.int 0, .ref q_1, .null, .null, .null, .null, .long 0, .long 0, .null, .null])), (q_1, .inl (ct 1, 334, .inr (.inl (fun _ => 0))))]) t_M i_M t_M_ok n_M rfl hx hb hts hown hin hE hP hD hS rfl (by decide) x_937 rfl rfl (by decide +kernel) (rfl) rfl (Nat.le_of_ble_eq_true rfl) rfl d_M_init_10 (fun H locs hP hD hS => ?_)
  refine lv_aload_n hx hb d_M_init_13 rfl (lv_at hl 0 rfl) ?_
  refine lv_sipush (v := 1336) hx hb d_M_init_14 (by decide) ?_
  refine q_newJ 1336 hx hb (hts _ (List.mem_cons_of_mem _ x_123)) hE hP hD hS hA (by decide) (by decide) (by decide) (Nat.le_of_ble_eq_true rfl) (Nat.le_of_ble_eq_true rfl) d_M_init_17 (fun q_2 H hP hD hS => ?_)
  refine q_putF (ty := .array (.long)) 0 2 (ws1 := [(ad, .inr (8, [.int 0, .ref q_1, .ref q_2, .null, .null, .null, .long 0, .long 0, .null, .null])), (q_1, .inl (ct 1, 334, .inr (.inl (fun _ => 0)))), (q_2, .inl (ct 1, 1336, .inr (.inl (fun _ => 0))))]) t_M i_M t_M_ok n_M rfl hx hb hts hown hin hE hP hD hS rfl (by decide) x_938 rfl rfl (by decide +kernel) (rfl) rfl (Nat.le_of_ble_eq_true rfl) rfl d_M_init_19 (fun H locs hP hD hS => ?_)
  refine lv_aload_n hx hb d_M_init_22 rfl (lv_at hl 0 rfl) ?_
  refine lv_iconst (v := 4) hx hb d_M_init_23 (by decide) ?_
  refine q_newZ 4 hx hb (hts _ (List.mem_cons_of_mem _ x_967)) hE hP hD hS hA (by decide) (by decide) (by decide) (Nat.le_of_ble_eq_true rfl) (Nat.le_of_ble_eq_true rfl) d_M_init_24 (fun q_3 H hP hD hS => ?_)
  refine q_putF (ty := .array (.boolean)) 0 3 (ws1 := [(ad, .inr (8, [.int 0, .ref q_1, .ref q_2, .ref q_3, .null, .null, .long 0, .long 0, .null, .null])), (q_1, .inl (ct 1, 334, .inr (.inl (fun _ => 0)))), (q_2, .inl (ct 1, 1336, .inr (.inl (fun _ => 0)))), (q_3, .inl (ct 2, 4, .inl (fun _ => 0)))]) t_M i_M t_M_ok n_M rfl hx hb hts hown hin hE hP hD hS rfl (by decide) x_939 rfl rfl (by decide +kernel) (rfl) rfl (Nat.le_of_ble_eq_true rfl) rfl d_M_init_26 (fun H locs hP hD hS => ?_)
  refine lv_aload_n hx hb d_M_init_29 rfl (lv_at hl 0 rfl) ?_
  refine lv_sipush (v := 132) hx hb d_M_init_30 (by decide) ?_
  refine q_newJ 132 hx hb (hts _ (List.mem_cons_of_mem _ x_123)) hE hP hD hS hA (by decide) (by decide) (by decide) (Nat.le_of_ble_eq_true rfl) (Nat.le_of_ble_eq_true rfl) d_M_init_33 (fun q_4 H hP hD hS => ?_)
  refine q_putF (ty := .array (.long)) 0 4 (ws1 := [(ad, .inr (8, [.int 0, .ref q_1, .ref q_2, .ref q_3, .ref q_4, .null, .long 0, .long 0, .null, .null])), (q_1, .inl (ct 1, 334, .inr (.inl (fun _ => 0)))), (q_2, .inl (ct 1, 1336, .inr (.inl (fun _ => 0)))), (q_3, .inl (ct 2, 4, .inl (fun _ => 0))), (q_4, .inl (ct 1, 132, .inr (.inl (fun _ => 0))))]) t_M i_M t_M_ok n_M rfl hx hb hts hown hin hE hP hD hS rfl (by decide) x_940 rfl rfl (by decide +kernel) (rfl) rfl (Nat.le_of_ble_eq_true rfl) rfl d_M_init_35 (fun H locs hP hD hS => ?_)
  refine lv_aload_n hx hb d_M_init_38 rfl (lv_at hl 0 rfl) ?_
  refine lv_sipush (v := 128) hx hb d_M_init_39 (by decide) ?_
  refine q_newJ 128 hx hb (hts _ (List.mem_cons_of_mem _ x_123)) hE hP hD hS hA (by decide) (by decide) (by decide) (Nat.le_of_ble_eq_true rfl) (Nat.le_of_ble_eq_true rfl) d_M_init_42 (fun q_5 H hP hD hS => ?_)
  refine q_putF (ty := .array (.long)) 0 5 (ws1 := [(ad, .inr (8, [.int 0, .ref q_1, .ref q_2, .ref q_3, .ref q_4, .ref q_5, .long 0, .long 0, .null, .null])), (q_1, .inl (ct 1, 334, .inr (.inl (fun _ => 0)))), (q_2, .inl (ct 1, 1336, .inr (.inl (fun _ => 0)))), (q_3, .inl (ct 2, 4, .inl (fun _ => 0))), (q_4, .inl (ct 1, 132, .inr (.inl (fun _ => 0)))), (q_5, .inl (ct 1, 128, .inr (.inl (fun _ => 0))))]) t_M i_M t_M_ok n_M rfl hx hb hts hown hin hE hP hD hS rfl (by decide) x_941 rfl rfl (by decide +kernel) (rfl) rfl (Nat.le_of_ble_eq_true rfl) rfl d_M_init_44 (fun H locs hP hD hS => ?_)
  refine lv_aload_n hx hb d_M_init_47 rfl (lv_at hl 0 rfl) ?_
  refine lv_bipush (v := 9) hx hb d_M_init_48 (by decide) ?_
  refine q_newJ 9 hx hb (hts _ (List.mem_cons_of_mem _ x_123)) hE hP hD hS hA (by decide) (by decide) (by decide) (Nat.le_of_ble_eq_true rfl) (Nat.le_of_ble_eq_true rfl) d_M_init_50 (fun q_6 H hP hD hS => ?_)
  refine q_putF (ty := .array (.long)) 0 8 (ws1 := [(ad, .inr (8, [.int 0, .ref q_1, .ref q_2, .ref q_3, .ref q_4, .ref q_5, .long 0, .long 0, .ref q_6, .null])), (q_1, .inl (ct 1, 334, .inr (.inl (fun _ => 0)))), (q_2, .inl (ct 1, 1336, .inr (.inl (fun _ => 0)))), (q_3, .inl (ct 2, 4, .inl (fun _ => 0))), (q_4, .inl (ct 1, 132, .inr (.inl (fun _ => 0)))), (q_5, .inl (ct 1, 128, .inr (.inl (fun _ => 0)))), (q_6, .inl (ct 1, 9, .inr (.inl (fun _ => 0))))]) t_M i_M t_M_ok n_M rfl hx hb hts hown hin hE hP hD hS rfl (by decide) x_944 rfl rfl (by decide +kernel) (rfl) rfl (Nat.le_of_ble_eq_true rfl) rfl d_M_init_52 (fun H locs hP hD hS => ?_)
  refine lv_aload_n hx hb d_M_init_55 rfl (lv_at hl 0 rfl) ?_
  refine lv_bipush (v := 63) hx hb d_M_init_56 (by decide) ?_
  refine q_newJ 63 hx hb (hts _ (List.mem_cons_of_mem _ x_123)) hE hP hD hS hA (by decide) (by decide) (by decide) (Nat.le_of_ble_eq_true rfl) (Nat.le_of_ble_eq_true rfl) d_M_init_58 (fun q_7 H hP hD hS => ?_)
  refine q_putF (ty := .array (.long)) 0 9 (ws1 := [(ad, .inr (8, [.int 0, .ref q_1, .ref q_2, .ref q_3, .ref q_4, .ref q_5, .long 0, .long 0, .ref q_6, .ref q_7])), (q_1, .inl (ct 1, 334, .inr (.inl (fun _ => 0)))), (q_2, .inl (ct 1, 1336, .inr (.inl (fun _ => 0)))), (q_3, .inl (ct 2, 4, .inl (fun _ => 0))), (q_4, .inl (ct 1, 132, .inr (.inl (fun _ => 0)))), (q_5, .inl (ct 1, 128, .inr (.inl (fun _ => 0)))), (q_6, .inl (ct 1, 9, .inr (.inl (fun _ => 0)))), (q_7, .inl (ct 1, 63, .inr (.inl (fun _ => 0))))]) t_M i_M t_M_ok n_M rfl hx hb hts hown hin hE hP hD hS rfl (by decide) x_945 rfl rfl (by decide +kernel) (rfl) rfl (Nat.le_of_ble_eq_true rfl) rfl d_M_init_60 (fun H locs hP hD hS => ?_)
  obtain ⟨am1, ea0, ea1, ea2, ea3, ea4, ea5, ea6, ea7⟩ : ∃ am1 : Nat → Nat, am1 0 = ad ∧ am1 1 = q_1 ∧ am1 2 = q_2 ∧ am1 3 = q_3 ∧ am1 4 = q_4 ∧ am1 5 = q_5 ∧ am1 6 = q_6 ∧ am1 7 = q_7 := ⟨fun i => match i with | 0 => ad | 1 => q_1 | 2 => q_2 | 3 => q_3 | 4 => q_4 | 5 => q_5 | 6 => q_6 | _ => q_7, rfl, rfl, rfl, rfl, rfl, rfl, rfl, rfl⟩
  subst ea0
  subst ea1
  subst ea2
  subst ea3
  subst ea4
  subst ea5
  subst ea6
  subst ea7
  refine lv_aload_n hx hb d_M_init_63 rfl (lv_at hl 0 rfl) ?_
  refine q_get 0 1 i_M rfl hx hb hts hown hE hP rfl (by decide) x_937 rfl d_M_init_64 ?_
  refine lv_iconst (v := 1) hx hb d_M_init_67 (by decide) ?_
  refine lv_ldc2 (v := 100000) hx hb hown (hts _ (List.mem_cons_of_mem _ x_929)) d_M_init_68 ?_
  obtain ⟨s_1, es_1⟩ : ∃ g9 : Nat → Int64, g9 = vp_updL (fun _ => 0) 1 100000 := ⟨_, rfl⟩
  refine q_last (k := 1) 1 (ws1 := [((am1 0), .inr (8, [.int 0, .ref (am1 1), .ref (am1 2), .ref (am1 3), .ref (am1 4), .ref (am1 5), .long 0, .long 0, .ref (am1 6), .ref (am1 7)])), ((am1 1), .inl (ct 1, 334, .inr (.inl s_1))), ((am1 2), .inl (ct 1, 1336, .inr (.inl (fun _ => 0)))), ((am1 3), .inl (ct 2, 4, .inl (fun _ => 0))), ((am1 4), .inl (ct 1, 132, .inr (.inl (fun _ => 0)))), ((am1 5), .inl (ct 1, 128, .inr (.inl (fun _ => 0)))), ((am1 6), .inl (ct 1, 9, .inr (.inl (fun _ => 0)))), ((am1 7), .inl (ct 1, 63, .inr (.inl (fun _ => 0))))]) es_1 hx hb hE hP hD hS rfl rfl (by omega) (by decide) rfl d_M_init_71 (fun H locs hP hD hS => ?_)
  refine lv_aload_n hx hb d_M_init_72 rfl (lv_at hl 0 rfl) ?_
  refine lv_bipush (v := 8) hx hb d_M_init_73 (by decide) ?_
  refine lv_iconst (v := 1) hx hb d_M_init_75 (by decide) ?_
  refine lv_iconst (v := 1) hx hb d_M_init_76 (by decide) ?_
  refine cWV (As := [.int 8, .int 1, .int 1]) (rest := []) (q9 := 0) (ci := 8) K_M_shapes x_930 hx hb hml hown hts hE hV hS (c_M_shapes l D ct st am1 0 0 0 s_1 8 1 1 (by omega) (by omega) (by omega) _) hP hD hA [0, 1] [2, 3, 4, 5, 6, 7] (wr := [((am1 2), .inl (ct 1, 1336, .inr (.inl (fun _ => 0)))), ((am1 3), .inl (ct 2, 4, .inl (fun _ => 0))), ((am1 4), .inl (ct 1, 132, .inr (.inl (fun _ => 0)))), ((am1 5), .inl (ct 1, 128, .inr (.inl (fun _ => 0)))), ((am1 6), .inl (ct 1, 9, .inr (.inl (fun _ => 0)))), ((am1 7), .inl (ct 1, 63, .inr (.inl (fun _ => 0))))]) rfl rfl (by decide) (by decide) (by decide) rfl hP rfl rfl hl.1 rfl (Nat.le_of_ble_eq_true rfl) d_M_init_77 (Nat.le_of_ble_eq_true rfl) (Nat.le_of_ble_eq_true rfl) ⟨Nat.le_of_ble_eq_true rfl, Nat.le_of_ble_eq_true rfl⟩ (fun v W1 H locs hpost hP hD hS => ?_)
  obtain ⟨s1_1, rfl, rfl, hq_77⟩ := hpost
  have hP : va_P D classes [((am1 2), .inl (ct 1, 1336, .inr (.inl (fun _ => 0)))), ((am1 3), .inl (ct 2, 4, .inl (fun _ => 0))), ((am1 4), .inl (ct 1, 132, .inr (.inl (fun _ => 0)))), ((am1 5), .inl (ct 1, 128, .inr (.inl (fun _ => 0)))), ((am1 6), .inl (ct 1, 9, .inr (.inl (fun _ => 0)))), ((am1 7), .inl (ct 1, 63, .inr (.inl (fun _ => 0)))), ((am1 0), .inr (8, [.int 0, .ref (am1 1), .ref (am1 2), .ref (am1 3), .ref (am1 4), .ref (am1 5), .long 0, .long 0, .ref (am1 6), .ref (am1 7)])), ((am1 1), .inl (ct 1, 334, .inr (.inl s1_1)))] H := hP
  have hD : va_D A [((am1 2), .inl (ct 1, 1336, .inr (.inl (fun _ => 0)))), ((am1 3), .inl (ct 2, 4, .inl (fun _ => 0))), ((am1 4), .inl (ct 1, 132, .inr (.inl (fun _ => 0)))), ((am1 5), .inl (ct 1, 128, .inr (.inl (fun _ => 0)))), ((am1 6), .inl (ct 1, 9, .inr (.inl (fun _ => 0)))), ((am1 7), .inl (ct 1, 63, .inr (.inl (fun _ => 0)))), ((am1 0), .inr (8, [.int 0, .ref (am1 1), .ref (am1 2), .ref (am1 3), .ref (am1 4), .ref (am1 5), .long 0, .long 0, .ref (am1 6), .ref (am1 7)])), ((am1 1), .inl (ct 1, 334, .inr (.inl s1_1)))] := hD
  exact rW_v hx hb hr hlk hAe hS (hP.sub (ws' := [((am1 0), .inr (8, [.int 0, .ref (am1 1), .ref (am1 2), .ref (am1 3), .ref (am1 4), .ref (am1 5), .long 0, .long 0, .ref (am1 6), .ref (am1 7)])), ((am1 1), .inl (ct 1, 334, .inr (.inl s1_1))), ((am1 2), .inl (ct 1, 1336, .inr (.inl (fun _ => 0)))), ((am1 3), .inl (ct 2, 4, .inl (fun _ => 0))), ((am1 4), .inl (ct 1, 132, .inr (.inl (fun _ => 0)))), ((am1 5), .inl (ct 1, 128, .inr (.inl (fun _ => 0)))), ((am1 6), .inl (ct 1, 9, .inr (.inl (fun _ => 0)))), ((am1 7), .inl (ct 1, 63, .inr (.inl (fun _ => 0))))]) [6, 7, 0, 1, 2, 3, 4, 5] rfl) (hD.sub (ws' := [((am1 0), .inr (8, [.int 0, .ref (am1 1), .ref (am1 2), .ref (am1 3), .ref (am1 4), .ref (am1 5), .long 0, .long 0, .ref (am1 6), .ref (am1 7)])), ((am1 1), .inl (ct 1, 334, .inr (.inl s1_1))), ((am1 2), .inl (ct 1, 1336, .inr (.inl (fun _ => 0)))), ((am1 3), .inl (ct 2, 4, .inl (fun _ => 0))), ((am1 4), .inl (ct 1, 132, .inr (.inl (fun _ => 0)))), ((am1 5), .inl (ct 1, 128, .inr (.inl (fun _ => 0)))), ((am1 6), .inl (ct 1, 9, .inr (.inl (fun _ => 0)))), ((am1 7), .inl (ct 1, 63, .inr (.inl (fun _ => 0))))]) [6, 7, 0, 1, 2, 3, 4, 5] (by decide) rfl) (Nat.le_of_ble_eq_true rfl) (Nat.le_of_ble_eq_true rfl) d_M_init_80 ⟨am1, s1_1, rfl, rfl, ⟨rfl, by have z := hq_77; rw [es_1] at z; exact z⟩⟩
