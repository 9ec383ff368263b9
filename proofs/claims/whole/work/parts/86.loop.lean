/-! the law from the head of its loop to its end -/
theorem len7 {L9 i : Nat} (hL : L9 ≤ 3584) (hi : i ≤ 4000) : Int32.ofNat L9 - 7 < nI i ↔ ¬ i + 7 ≤ L9 := by
  rw [Int32.lt_iff_toInt_lt, nI_toInt (by omega), Int32.toInt_sub, show (Int32.ofNat L9).toInt = (L9 : Int) from nI_toInt (n := L9) (by omega), show (7 : Int32).toInt = 7 by decide]
  have : ((L9 : Int) - 7).bmod (2 ^ 32) = (L9 : Int) - 7 := by
    apply Int.bmod_eq_of_le <;> omega
  rw [this]
  omega
theorem and31 (v : Int32) : 0 ≤ (v &&& 31).toInt ∧ (v &&& 31).toInt ≤ 31 := by
  have h : ∀ b : BitVec 32, 0 ≤ (b &&& 31#32).toInt ∧ (b &&& 31#32).toInt ≤ 31 := by
    intro b
    have : (b &&& 31#32).toNat ≤ 31 := by
      rw [BitVec.toNat_and]
      exact Nat.and_le_right
    rw [BitVec.toInt_eq_toNat_of_lt (by omega)]
    omega
  exact h v.toBitVec
set_option maxHeartbeats 4000000 in
set_option maxRecDepth 100000 in
theorem law_loop {p : Program} {e : Env} {R : Room} {s : State} {m : MethodId} {below : List Frame} {meth : Method} {c : Code} {Q : State → Prop} {A : Nat → Prop} {a0 : Cond} (l : Launch) (D : va_G) (ct : Nat → ClassId) (st : Nat → Nat) {b9 L9 : Nat} {xs : Nat → Int32} (C0 : LX p l R s m c b9 L9 xs D ct st A a0) (a : AD) {c0 s0 : Nat} (hroom : c0 + 39 * 512 ≤ R.cells ∧ s0 + 3726 * 512 ≤ R.slots)
    (hend : ∀ (H : Heap) (locs : List Loc) (ls : Array Slot) (cells slots : Nat), cells ≤ R.cells → slots ≤ R.slots → va_S A s.heap H locs → W p l e R s m #[Value.ref b9] below meth c H locs cells slots Q (F0 m 1445 ls [])) :
    ∀ (r k i : Nat) (w : NW) (x : SC) (sl : Nat → Option (SD × NW)) (H : Heap) (locs : List Loc) (ls : Array Slot) (cells slots : Nat), 512 ≤ r + k → i = 7 * k → k ≤ 512 → cells ≤ c0 + 39 * k → slots ≤ s0 + 3726 * k → Inv k w x sl → va_P D classes (lawW ct a w x ++ zsW ct sl) H → va_D A (lawW ct a w x ++ zsW ct sl) → va_S A s.heap H locs → lv_has ls 8 (bas a b9 i) → W p l e R s m #[Value.ref b9] below meth c H locs cells slots Q (F0 m 23 ls []) := by
  have C1 := C0
  obtain ⟨hst, hx, hb, hml, hown, hts, hE, hV, hA, hXs, hbl, hbA, hRf, hRl, hL9⟩ := C1
  intro r
  induction r with
  | zero =>
    intro k i w x sl H locs ls cells slots h1 h2 h3 h4 h5 hI hP hD hS hl
    refine lv_iload hx hb d_L_law_23 (lv_at hl 4 rfl) ?_
    refine lv_aload_n hx hb d_L_law_25 rfl (lv_at hl 0 rfl) ?_
    refine va_slen hx hb hXs hbl hbA hS d_L_law_26 ?_
    refine lv_bipush (v := 7) hx hb d_L_law_27 (by decide) ?_
    refine lv_isub hx hb d_L_law_29 ?_
    exact lv_icmp_gt (tgt := 1445) hx hb d_L_law_30 (by decide) (fun _ => hend H locs ls cells slots (by omega) (by omega) hS) (fun h => absurd ((len7 hL9 (by omega)).mpr (by omega)) h)
  | succ r ih =>
    intro k i w x sl H locs ls cells slots h1 h2 h3 h4 h5 hI hP hD hS hl
    refine lv_iload hx hb d_L_law_23 (lv_at hl 4 rfl) ?_
    refine lv_aload_n hx hb d_L_law_25 rfl (lv_at hl 0 rfl) ?_
    refine va_slen hx hb hXs hbl hbA hS d_L_law_26 ?_
    refine lv_bipush (v := 7) hx hb d_L_law_27 (by decide) ?_
    refine lv_isub hx hb d_L_law_29 ?_
    refine lv_icmp_gt (tgt := 1445) hx hb d_L_law_30 (by decide) (fun _ => hend H locs ls cells slots (by omega) (by omega) hS) (fun h => ?_)
    have hi : i + 7 ≤ L9 := Classical.not_not.mp fun z => h ((len7 hL9 (by omega)).mpr z)
    have hk : k < 512 := by omega
    have hr2 : cells + 39 ≤ R.cells ∧ slots + 3726 ≤ R.slots := by omega
    have kk : KK p l e R s m b9 below meth c Q D ct A a i k cells slots := by
      intro w1 x1 sl1 H1 locs1 ls1 c1 s1 hI1 hc1 hs1 hl1 hP1 hD1 hS1
      refine lv_iinc (v := nI (i + 7)) (lv' := [(4, .int (nI (i + 7))), (0, .ref b9), (1, .ref (a.wa 0)), (2, .ref (a.am 0)), (3, .ref a.ou)]) hx hb d_L_law_1439 hl1 (k := 4) rfl (nI_add i 7) (by decide) rfl (fun ls2 hl2 => ?_)
      refine lv_goto (tgt := 23) hx hb d_L_law_1442 (by decide) ?_
      exact ih (k + 1) (i + 7) w1 x1 sl1 H1 locs1 ls2 c1 s1 (by omega) (by omega) (by omega) (by omega) (by omega) hI1 hP1 hD1 hS1 (lv_sub hl2 [1, 2, 3, 4, 0] rfl)
    refine lv_aload_n hx hb d_L_law_33 rfl (lv_at hl 0 rfl) ?_
    refine lv_iload hx hb d_L_law_34 (lv_at hl 4 rfl) ?_
    refine va_sld hx hb hXs hbl hbA hS (vp_in_nI (by omega) (by omega)) d_L_law_36 ?_
    refine lv_bipush (v := 31) hx hb d_L_law_37 (by decide) ?_
    refine lv_iand hx hb d_L_law_39 ?_
    generalize hx9 : (xs (nI i).toNatClampNeg &&& 31) = v9
    have hv := and31 (xs (nI i).toNatClampNeg)
    rw [hx9] at hv
    by_cases hbig : 22 < v9.toInt
    · refine lv_tableOut (tgt := 1439) hx hb d_L_law_40 (Or.inr hbig) (by decide) ?_
      exact kk w x sl H locs ls cells slots ⟨hI.1.mono (Nat.le_succ k), hI.2.mono rfl rfl rfl⟩ (by omega) (by omega) hl hP hD hS
    rcases (show v9.toInt = 0 ∨ v9.toInt = 1 ∨ v9.toInt = 2 ∨ v9.toInt = 3 ∨ v9.toInt = 4 ∨ v9.toInt = 5 ∨ v9.toInt = 6 ∨ v9.toInt = 7 ∨ v9.toInt = 8 ∨ v9.toInt = 9 ∨ v9.toInt = 10 ∨ v9.toInt = 11 ∨ v9.toInt = 12 ∨ v9.toInt = 13 ∨ v9.toInt = 14 ∨ v9.toInt = 15 ∨ v9.toInt = 16 ∨ v9.toInt = 17 ∨ v9.toInt = 18 ∨ v9.toInt = 19 ∨ v9.toInt = 20 ∨ v9.toInt = 21 ∨ v9.toInt = 22 by omega) with hc | hc | hc | hc | hc | hc | hc | hc | hc | hc | hc | hc | hc | hc | hc | hc | hc | hc | hc | hc | hc | hc | hc
    · refine lv_tableIn (tgt := 148) hx hb d_L_law_40 (by omega) (by omega) (by rw [hc]; rfl) (by decide) ?_
      exact k_shape l D ct st C0 i hi hr2 a w x sl hk hI hP hD hS hl kk
    · refine lv_tableIn (tgt := 208) hx hb d_L_law_40 (by omega) (by omega) (by rw [hc]; rfl) (by decide) ?_
      exact k_gas l D ct st C0 i hi hr2 a w x sl hk hI hP hD hS hl kk
    · refine lv_tableIn (tgt := 244) hx hb d_L_law_40 (by omega) (by omega) (by rw [hc]; rfl) (by decide) ?_
      exact k_cell l D ct st C0 i hi hr2 a w x sl hk hI hP hD hS hl kk
    · refine lv_tableIn (tgt := 328) hx hb d_L_law_40 (by omega) (by omega) (by rw [hc]; rfl) (by decide) ?_
      exact k_ignition l D ct st C0 i hi hr2 a w x sl hk hI hP hD hS hl kk
    · refine lv_tableIn (tgt := 388) hx hb d_L_law_40 (by omega) (by omega) (by rw [hc]; rfl) (by decide) ?_
      exact k_step l D ct st C0 i hi hr2 a w x sl hk hI hP hD hS hl kk
    · refine lv_tableIn (tgt := 456) hx hb d_L_law_40 (by omega) (by omega) (by rw [hc]; rfl) (by decide) ?_
      exact k_tube l D ct st C0 i hi hr2 a w x sl hk hI hP hD hS hl kk
    · refine lv_tableIn (tgt := 524) hx hb d_L_law_40 (by omega) (by omega) (by rw [hc]; rfl) (by decide) ?_
      exact k_anew l D ct st C0 i hi hr2 a w x sl hk hI hP hD hS hl kk
    · refine lv_tableIn (tgt := 592) hx hb d_L_law_40 (by omega) (by omega) (by rw [hc]; rfl) (by decide) ?_
      exact k_probe l D ct st C0 i hi hr2 a w x sl hk hI hP hD hS hl kk
    · refine lv_tableIn (tgt := 660) hx hb d_L_law_40 (by omega) (by omega) (by rw [hc]; rfl) (by decide) ?_
      exact k_came l D ct st C0 i hi hr2 a w x sl hk hI hP hD hS hl kk
    · refine lv_tableIn (tgt := 715) hx hb d_L_law_40 (by omega) (by omega) (by rw [hc]; rfl) (by decide) ?_
      exact k_isKept l D ct st C0 i hi hr2 a w x sl hk hI hP hD hS hl kk
    · refine lv_tableIn (tgt := 778) hx hb d_L_law_40 (by omega) (by omega) (by rw [hc]; rfl) (by decide) ?_
      exact k_many l D ct st C0 i hi hr2 a w x sl hk hI hP hD hS hl kk
    · refine lv_tableIn (tgt := 791) hx hb d_L_law_40 (by omega) (by omega) (by rw [hc]; rfl) (by decide) ?_
      exact k_steps l D ct st C0 i hi hr2 a w x sl hk hI hP hD hS hl kk
    · refine lv_tableIn (tgt := 804) hx hb d_L_law_40 (by omega) (by omega) (by rw [hc]; rfl) (by decide) ?_
      exact k_front l D ct st C0 i hi hr2 a w x sl hk hI hP hD hS hl kk
    · refine lv_tableIn (tgt := 896) hx hb d_L_law_40 (by omega) (by omega) (by rw [hc]; rfl) (by decide) ?_
      exact k_tick l D ct st C0 i hi hr2 a w x sl hk hI hP hD hS hl kk
    · refine lv_tableIn (tgt := 952) hx hb d_L_law_40 (by omega) (by omega) (by rw [hc]; rfl) (by decide) ?_
      exact k_fronts l D ct st C0 i hi hr2 a w x sl hk hI hP hD hS hl kk
    · refine lv_tableIn (tgt := 965) hx hb d_L_law_40 (by omega) (by omega) (by rw [hc]; rfl) (by decide) ?_
      exact k_ofFront l D ct st C0 i hi hr2 a w x sl hk hI hP hD hS hl kk
    · refine lv_tableIn (tgt := 1033) hx hb d_L_law_40 (by omega) (by omega) (by rw [hc]; rfl) (by decide) ?_
      exact k_pipe l D ct st C0 i hi hr2 a w x sl hk hI hP hD hS hl kk
    · refine lv_tableIn (tgt := 1131) hx hb d_L_law_40 (by omega) (by omega) (by rw [hc]; rfl) (by decide) ?_
      exact k_valve l D ct st C0 i hi hr2 a w x sl hk hI hP hD hS hl kk
    · refine lv_tableIn (tgt := 1187) hx hb d_L_law_40 (by omega) (by omega) (by rw [hc]; rfl) (by decide) ?_
      exact k_reservoir l D ct st C0 i hi hr2 a w x sl hk hI hP hD hS hl kk
    · refine lv_tableIn (tgt := 1243) hx hb d_L_law_40 (by omega) (by omega) (by rw [hc]; rfl) (by decide) ?_
      exact k_flow l D ct st C0 i hi hr2 a w x sl hk hI hP hD hS hl kk
    · refine lv_tableIn (tgt := 1299) hx hb d_L_law_40 (by omega) (by omega) (by rw [hc]; rfl) (by decide) ?_
      exact k_node l D ct st C0 i hi hr2 a w x sl hk hI hP hD hS hl kk
    · refine lv_tableIn (tgt := 1367) hx hb d_L_law_40 (by omega) (by omega) (by rw [hc]; rfl) (by decide) ?_
      exact k_keep l D ct st C0 i hi hr2 a w x sl hk hI hP hD hS hl kk
    · refine lv_tableIn (tgt := 1403) hx hb d_L_law_40 (by omega) (by omega) (by rw [hc]; rfl) (by decide) ?_
      exact k_goBack l D ct st C0 i hi hr2 a w x sl hk hI hP hD hS hl kk
