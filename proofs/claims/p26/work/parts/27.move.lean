theorem rngI (x : Int32) : -2147483648 ≤ x.toInt ∧ x.toInt < 2147483648 := by
  have h1 := Int32.le_toInt x
  have h2 := Int32.toInt_lt x
  omega
theorem divI_toInt {x y : Int32} (hy : 0 < y.toInt) : (x / y).toInt = x.toInt.tdiv y.toInt := by
  have r := rngI x
  have h : -2147483648 ≤ x.toInt.tdiv y.toInt ∧ x.toInt.tdiv y.toInt < 2147483648 := by
    rcases Int.lt_or_le x.toInt 0 with q | q
    · have e : x.toInt.tdiv y.toInt = -((-x.toInt) / y.toInt) := by
        rw [show x.toInt = -(-x.toInt) by omega, Int.neg_tdiv, Int.tdiv_eq_ediv_of_nonneg (by omega), Int.neg_neg]
      have h1 : (-x.toInt) / y.toInt ≤ -x.toInt := Int.ediv_le_self _ (by omega)
      have h2 : 0 ≤ (-x.toInt) / y.toInt := Int.ediv_nonneg (by omega) (by omega)
      omega
    · rw [Int.tdiv_eq_ediv_of_nonneg q]
      have h1 : x.toInt / y.toInt ≤ x.toInt := Int.ediv_le_self _ q
      have h2 : 0 ≤ x.toInt / y.toInt := Int.ediv_nonneg q (by omega)
      omega
  rw [Int32.toInt_div]
  exact Int.bmod_eq_of_le (by omega) (by omega)
theorem mnI_t (x y : Int32) : (mnI x y).toInt = if y.toInt < x.toInt then y.toInt else x.toInt := by
  unfold mnI
  by_cases h : y < x
  · rw [if_pos h, if_pos (Int32.lt_iff_toInt_lt.mp h)]
  · rw [if_neg h, if_neg (fun z => h (Int32.lt_iff_toInt_lt.mpr z))]
theorem mxI_t (x y : Int32) : (mxI x y).toInt = if x.toInt < y.toInt then y.toInt else x.toInt := by
  unfold mxI
  by_cases h : x < y
  · rw [if_pos h, if_pos (Int32.lt_iff_toInt_lt.mp h)]
  · rw [if_neg h, if_neg (fun z => h (Int32.lt_iff_toInt_lt.mpr z))]
/-- the strength of a front that turns -/
theorem trn_tg {x : Int32} (h : 1 ≤ x.toInt ∧ x.toInt ≤ 900) : (mnI 900 (x * 3 / 2)).toInt = r_min (3 * x.toInt / 2) 900 := by
  have e1 : (x * 3).toInt = x.toInt * 3 := fb_mulI (y := 3) (by show _ ≤ x.toInt * 3; omega) (by show x.toInt * 3 < _; omega)
  have e2 : (x * 3 / 2).toInt = x.toInt * 3 / 2 := by
    rw [divI_toInt (by decide), e1, Int.tdiv_eq_ediv_of_nonneg (by omega)]; rfl
  rw [mnI_t, e2]
  show (if x.toInt * 3 / 2 < 900 then x.toInt * 3 / 2 else 900) = _
  unfold r_min
  rw [Int.mul_comm x.toInt 3]
  split <;> split <;> omega
theorem clampI {x : Int32} : (mxI 0 (mnI x 100000)).toInt = if x.toInt < 0 then 0 else if 100000 < x.toInt then 100000 else x.toInt := by
  rw [mxI_t, mnI_t]
  show (if 0 < (if 100000 < x.toInt then 100000 else x.toInt) then (if 100000 < x.toInt then 100000 else x.toInt) else 0) = _
  split <;> split <;> (try split) <;> omega
def trn (F : RF) (k : Nat) : Nat → Int := fun a => if a = 2 then -(F 2 k) else if a = 3 then r_min (3 * F 3 k / 2) 900 else F a k
theorem fR_trn {ck cp cs cg ca cs1 cg1 : Nat → Int32} {k : Nat} (h2 : -900 ≤ (cs k).toInt ∧ (cs k).toInt ≤ 900) (h3 : 1 ≤ (cg k).toInt ∧ (cg k).toInt ≤ 900) (e2 : cs1 = upd cs k (-cs k)) (e3 : cg1 = upd cg k (mnI 900 (cg k * 3 / 2))) : ∀ a j, a < 5 → j < 8 → fR ck cp cs1 cg1 ca a j = if j = k then trn (fR ck cp cs cg ca) k a else fR ck cp cs cg ca a j := by
  intro a j ha hj
  rcases a5 ha with rfl | rfl | rfl | rfl | rfl
  · rw [fR0, fR0]; by_cases q : j = k <;> simp [q, trn, fR0]
  · rw [fR1, fR1]; by_cases q : j = k <;> simp [q, trn, fR1]
  · rw [fR2, fR2, e2, upd_at, fb_negI (by omega)]; simp [trn, fR2]
  · rw [fR3, fR3, e3, upd_at, trn_tg h3]; simp [trn, fR3]
  · rw [fR4, fR4]; by_cases q : j = k <;> simp [q, trn, fR4]
theorem fR_mid {dk dp ds dg da dp1 da1 : Nat → Int32} {T : RF} {k i : Nat} {y : Int32} (hi : i < 8) (h : ∀ a j, a < 5 → j < 8 → fR dk dp ds dg da a j = if j = k then T a i else T a j) (e1 : dp1 = upd dp k y) (e4 : da1 = upd da k (dp i)) : ∀ a j, a < 5 → j < 8 → fR dk dp1 ds dg da1 a j = if j = k then (if a = 1 then y.toInt else if a = 4 then T 1 i else T a i) else T a j := by
  intro a j ha hj
  have h1 := h a j ha hj
  have h4 : (dp i).toInt = T 1 i := by
    have := h 1 i (by decide) hi
    rw [fR1] at this
    rw [this]
    split <;> rfl
  rcases a5 ha with rfl | rfl | rfl | rfl | rfl
  · rw [fR0] at h1 ⊢; rw [h1]; simp
  · rw [fR1] at h1 ⊢; rw [e1, upd_at, h1]; by_cases q : j = k <;> simp [q]
  · rw [fR2] at h1 ⊢; rw [h1]; simp
  · rw [fR3] at h1 ⊢; rw [h1]; simp
  · rw [fR4] at h1 ⊢; rw [e4, upd_at, h1, h4]; by_cases q : j = k <;> simp [q]
theorem cmv_s {F T G1 : RF} {cnt k i : Nat} (hi : i < cnt) (hc : cnt ≤ 8) (hk : k = (mv F i).1) (hA : ∀ a j, a < 5 → j < k → T a j = (mv F i).2 a j) (hB : ∀ a j, a < 4 → i ≤ j → j < cnt → T a j = F a j) (hs : mv_st F i) (h1 : ∀ a j, a < 5 → j < 8 → G1 a j = if j = k then mvf F i a else T a j) :
    k + 1 = (mv F (i + 1)).1 ∧ (∀ a j, a < 5 → j < k + 1 → G1 a j = (mv F (i + 1)).2 a j) ∧ ∀ a j, a < 4 → i + 1 ≤ j → j < cnt → G1 a j = F a j := by
  have e : mv F (i + 1) = ((mv F i).1 + 1, fun a j => if j = (mv F i).1 then mvf F i a else (mv F i).2 a j) := by
    show (if mv_st F i then _ else _) = _
    rw [if_pos hs]
  have hl := mv_le F i
  rw [e]
  refine ⟨by rw [hk], fun a j ha hj => ?_, fun a j ha hj hj2 => ?_⟩
  · show _ = if j = (mv F i).1 then mvf F i a else (mv F i).2 a j
    rw [h1 a j ha (by omega), ← hk]
    by_cases q : j = k
    · rw [if_pos q, if_pos q]
    · rw [if_neg q, if_neg q]; exact hA a j ha (by omega)
  · rw [h1 a _ (by omega) (by omega), if_neg (by omega)]
    exact hB a j ha (by omega) hj2
theorem cmv_n {F : RF} {i : Nat} (hs : ¬ mv_st F i) : mv F (i + 1) = mv F i := by
  show (if mv_st F i then _ else _) = _
  rw [if_neg hs]

set_option maxHeartbeats 4000000 in
set_option maxRecDepth 100000 in
theorem c_Row_turn (l : Launch) (D : va_G) (ct : Nat → ClassId) (st : Nat → Nat) (ra : Nat → Nat) (cnt : Nat) (ck : Nat → Int32) (cp : Nat → Int32) (ca : Nat → Int32) (cs : Nat → Int32) (cg : Nat → Int32) (k : Nat) (h1 : k < 8) (h2 : -900 ≤ (cs k).toInt ∧ (cs k).toInt ≤ 900) (h3 : 1 ≤ (cg k).toInt ∧ (cg k).toInt ≤ 900) (sz : Nat) : Met l y_Row_turn (wsy y_Row_turn b_Row_turn 2 (none)) (rmW 1 0 0 15) (PcW D ct st [.ref (ra 0), .int (nI k)] [((ra 0), .inr (3, [.int (nI cnt), .ref (ra 1), .ref (ra 2), .ref (ra 3), .ref (ra 4), .ref (ra 5)])), ((ra 1), .inl (ct 0, 8, .inl ck)), ((ra 2), .inl (ct 0, 8, .inl cp)), ((ra 3), .inl (ct 0, 8, .inl ca)), ((ra 4), .inl (ct 0, 8, .inl cs)), ((ra 5), .inl (ct 0, 8, .inl cg))] sz) (QcW D [((ra 0), .inr (3, [.int (nI cnt), .ref (ra 1), .ref (ra 2), .ref (ra 3), .ref (ra 4), .ref (ra 5)])), ((ra 1), .inl (ct 0, 8, .inl ck)), ((ra 2), .inl (ct 0, 8, .inl cp)), ((ra 3), .inl (ct 0, 8, .inl ca)), ((ra 4), .inl (ct 0, 8, .inl cs)), ((ra 5), .inl (ct 0, 8, .inl cg))] sz (fun v W1 => ∃ (cs1 : Nat → Int32) (cg1 : Nat → Int32), v = none ∧ W1 = [((ra 0), .inr (3, [.int (nI cnt), .ref (ra 1), .ref (ra 2), .ref (ra 3), .ref (ra 4), .ref (ra 5)])), ((ra 1), .inl (ct 0, 8, .inl ck)), ((ra 2), .inl (ct 0, 8, .inl cp)), ((ra 3), .inl (ct 0, 8, .inl ca)), ((ra 4), .inl (ct 0, 8, .inl cs1)), ((ra 5), .inl (ct 0, 8, .inl cg1))] ∧ (∀ a j, a < 5 → j < 8 → fR ck cp cs1 cg1 ca a j = if j = k then trn (fR ck cp cs cg ca) k a else (fR ck cp cs cg ca) a j))) 0 0 (va_A [((ra 0), .inr (3, [.int (nI cnt), .ref (ra 1), .ref (ra 2), .ref (ra 3), .ref (ra 4), .ref (ra 5)])), ((ra 1), .inl (ct 0, 8, .inl ck)), ((ra 2), .inl (ct 0, 8, .inl cp)), ((ra 3), .inl (ct 0, 8, .inl ca)), ((ra 4), .inl (ct 0, 8, .inl cs)), ((ra 5), .inl (ct 0, 8, .inl cg))] sz) := by
  refine enterW (by decide) (Nat.le_of_ble_eq_true rfl) ?_
  intro p e s m args below meth c ls A hx hb hr hml hown hts hlk hin hsz hAe hP hD hA hE hV hS hl
  have hl : lv_has ls 2 [(0, .ref (ra 0)), (1, .int (nI k))] := hl
  refine lv_aload_n hx hb d_Row_turn_0 rfl (lv_at hl 0 rfl) ?_
  refine q_get 0 4 i_Row rfl hx hb hts hown hE hP rfl (by decide) x_154 rfl d_Row_turn_1 ?_
  refine lv_iload_n hx hb d_Row_turn_4 rfl (lv_at hl 1 rfl) ?_
  refine lv_aload_n hx hb d_Row_turn_5 rfl (lv_at hl 0 rfl) ?_
  refine q_get 0 4 i_Row rfl hx hb hts hown hE hP rfl (by decide) x_154 rfl d_Row_turn_6 ?_
  refine lv_iload_n hx hb d_Row_turn_9 rfl (lv_at hl 1 rfl) ?_
  refine q_iald (k := k) 4 hx hb hE hP rfl rfl (by omega) (by decide) d_Row_turn_10 ?_
  refine lv_ineg hx hb d_Row_turn_11 ?_
  obtain ⟨cs_1, ecs_1⟩ : ∃ g9 : Nat → Int32, g9 = upd cs k (-(cs k)) := ⟨_, rfl⟩
  refine q_iast (k := k) 4 (ws1 := [((ra 0), .inr (3, [.int (nI cnt), .ref (ra 1), .ref (ra 2), .ref (ra 3), .ref (ra 4), .ref (ra 5)])), ((ra 1), .inl (ct 0, 8, .inl ck)), ((ra 2), .inl (ct 0, 8, .inl cp)), ((ra 3), .inl (ct 0, 8, .inl ca)), ((ra 4), .inl (ct 0, 8, .inl cs_1)), ((ra 5), .inl (ct 0, 8, .inl cg))]) ecs_1 hx hb hE hP hD hS rfl rfl (by omega) (by decide) rfl d_Row_turn_12 (fun H locs hP hD hS => ?_)
  refine lv_aload_n hx hb d_Row_turn_13 rfl (lv_at hl 0 rfl) ?_
  refine q_get 0 5 i_Row rfl hx hb hts hown hE hP rfl (by decide) x_155 rfl d_Row_turn_14 ?_
  refine lv_iload_n hx hb d_Row_turn_17 rfl (lv_at hl 1 rfl) ?_
  refine lv_sipush (v := 900) hx hb d_Row_turn_18 (by decide) ?_
  refine lv_aload_n hx hb d_Row_turn_21 rfl (lv_at hl 0 rfl) ?_
  refine q_get 0 5 i_Row rfl hx hb hts hown hE hP rfl (by decide) x_155 rfl d_Row_turn_22 ?_
  refine lv_iload_n hx hb d_Row_turn_25 rfl (lv_at hl 1 rfl) ?_
  refine q_iald (k := k) 5 hx hb hE hP rfl rfl (by omega) (by decide) d_Row_turn_26 ?_
  refine lv_iconst (v := 3) hx hb d_Row_turn_27 (by decide) ?_
  refine lv_imul hx hb d_Row_turn_28 ?_
  refine lv_iconst (v := 2) hx hb d_Row_turn_29 (by decide) ?_
  refine lv_idiv hx hb d_Row_turn_30 (by decide) ?_
  refine va_mmin hx hb (by rw [hml]; exact hl.1.symm) hown (hts _ (List.mem_cons_of_mem _ x_663)) (hts _ (List.mem_cons_of_mem _ x_376)) (hts _ (List.mem_cons_of_mem _ x_13)) (hts _ (List.mem_cons_of_mem _ x_377)) (Nat.le_of_ble_eq_true rfl) (Nat.le_of_ble_eq_true rfl) (Nat.le_of_ble_eq_true rfl) (Nat.le_of_ble_eq_true rfl) d_Row_turn_31 ?_
  refine q_topi (v := (mnI 900 (((cg k) * 3) / 2))) rfl ?_
  obtain ⟨cg_1, ecg_1⟩ : ∃ g9 : Nat → Int32, g9 = upd cg k (mnI 900 (((cg k) * 3) / 2)) := ⟨_, rfl⟩
  refine q_iast (k := k) 5 (ws1 := [((ra 0), .inr (3, [.int (nI cnt), .ref (ra 1), .ref (ra 2), .ref (ra 3), .ref (ra 4), .ref (ra 5)])), ((ra 1), .inl (ct 0, 8, .inl ck)), ((ra 2), .inl (ct 0, 8, .inl cp)), ((ra 3), .inl (ct 0, 8, .inl ca)), ((ra 4), .inl (ct 0, 8, .inl cs_1)), ((ra 5), .inl (ct 0, 8, .inl cg_1))]) ecg_1 hx hb hE hP hD hS rfl rfl (by omega) (by decide) rfl d_Row_turn_34 (fun H locs hP hD hS => ?_)
  exact rW_v hx hb hr hlk hAe hS hP hD (Nat.le_of_ble_eq_true rfl) (Nat.le_of_ble_eq_true rfl) d_Row_turn_35 ⟨cs_1, cg_1, rfl, rfl, fR_trn h2 h3 ecs_1 ecg_1⟩
