/-! the tube in numbers: masses M, momenta P, energies E, fuels F of its cells -/
abbrev sM (S : Nat → Int64) : Nat → Int64 := fun c => S (8 + c)
abbrev sP (S : Nat → Int64) : Nat → Int64 := fun c => S (40 + c)
abbrev sE (S : Nat → Int64) : Nat → Int64 := fun c => S (72 + c)
abbrev sF (S : Nat → Int64) : Nat → Int64 := fun c => S (104 + c)
def w_sp (M P : Nat → Int64) (k : Nat) : Int64 := fd (1000 * P k) (M k)
def w_pr (g : Nat) (M P E : Nat → Int64) (k : Nat) : Int64 := w_pres g (w_within (M k) (P k) (E k))
noncomputable def w_so (g : Nat) (M P E : Nat → Int64) (k : Nat) : Int64 := w_sound g (M k) (w_pr g M P E k)
noncomputable def w_fast (g : Nat) (M P E : Nat → Int64) (k : Nat) : Int64 := w_sz (w_sp M P k) + w_so g M P E k
def w_mq (g : Nat) (M P E : Nat → Int64) (k : Nat) : Int64 := fd (P k * P k) (M k) + w_pr g M P E k
def w_eq (g : Nat) (M P E : Nat → Int64) (k : Nat) : Int64 := fd ((E k + w_pr g M P E k) * P k) (M k)
def w_fu1 (M F : Nat → Int64) (a : Int64) (k : Nat) : Int64 := if fd (a * F k) (M k) ≤ F k then fd (a * F k) (M k) else F k
def w_fu (M F : Nat → Int64) (ma : Int64) (lf rg : Nat) : Int64 := if ma ≤ 0 then -(w_fu1 M F (w_sz ma) rg) else w_fu1 M F (w_sz ma) lf
def w_lf (b : Nat) : Nat := if b = 0 then 0 else b - 1
def w_rg (n b : Nat) : Nat := if b = n then n - 1 else b
abbrev w_wall (n lft rgt b : Nat) : Prop := (b = 0 ∧ lft = 1) ∨ (b = n ∧ rgt = 1)
def w_pick (a b : Int64) : Int64 := if a ≤ b then b else a
noncomputable def w_pace (g : Nat) (M P E : Nat → Int64) (n lft rgt b : Nat) : Int64 := w_pick (w_fast g M P E (w_lf b)) (if w_wall n lft rgt b then w_sz (fd ((-1000) * P (w_rg n b)) (M (w_rg n b))) + w_so g M P E (w_rg n b) else w_fast g M P E (w_rg n b))
def w_more (P : Nat → Int64) (n lft rgt b : Nat) : Int64 := if w_wall n lft rgt b then (if b = 0 then 2 * P 0 else (-2) * P (w_lf b)) else P (w_rg n b) - P (w_lf b)
noncomputable def w_g0 (t : Int64) (g : Nat) (M P E : Nat → Int64) (n lft rgt b : Nat) : Int64 := if w_wall n lft rgt b then 0 else w_over t (P (w_lf b) + P (w_rg n b)) (w_pace g M P E n lft rgt b) (M (w_rg n b) - M (w_lf b))
noncomputable def w_g1 (t : Int64) (g : Nat) (M P E : Nat → Int64) (n lft rgt b : Nat) : Int64 := w_over t (w_mq g M P E (w_lf b) + w_mq g M P E (w_rg n b)) (w_pace g M P E n lft rgt b) (w_more P n lft rgt b)
noncomputable def w_g2 (t : Int64) (g : Nat) (M P E : Nat → Int64) (n lft rgt b : Nat) : Int64 := if w_wall n lft rgt b then 0 else w_over t (w_eq g M P E (w_lf b) + w_eq g M P E (w_rg n b)) (w_pace g M P E n lft rgt b) (E (w_rg n b) - E (w_lf b))
noncomputable def w_g3 (t : Int64) (g : Nat) (M P E F : Nat → Int64) (n lft rgt b : Nat) : Int64 := w_fu M F (w_g0 t g M P E n lft rgt b) (w_lf b) (w_rg n b)
/-- a cell that may stand -/
def OkC (M P E F : Nat → Int64) (k : Nat) : Prop := (1 ≤ (M k).toInt ∧ (M k).toInt ≤ 1000000) ∧ (-50000000 ≤ (P k).toInt ∧ (P k).toInt ≤ 50000000) ∧ (0 ≤ (E k).toInt ∧ (E k).toInt ≤ 1000000000) ∧ 0 ≤ (w_within (M k) (P k) (E k)).toInt ∧ 0 ≤ (F k).toInt ∧ (F k).toInt ≤ (M k).toInt
theorem pres_rng {g : Nat} (h : g < 3) {w : Int64} (h0 : 0 ≤ w.toInt) (h1 : w.toInt ≤ 1000000000) : 0 ≤ (w_pres g w).toInt ∧ (w_pres g w).toInt ≤ 1000000000 := by
  have e2 : (2 * w).toInt = 2 * w.toInt := fb_mulL (x := 2) (by show _ ≤ 2 * w.toInt; omega) (by show 2 * w.toInt < _; omega)
  rcases g3 h with rfl | rfl | rfl
  · show 0 ≤ (fd (2 * w) 5).toInt ∧ (fd (2 * w) 5).toInt ≤ _
    rw [fd_toInt (by decide), e2, show (5 : Int64).toInt = 5 from rfl]
    omega
  · show 0 ≤ (fd (2 * w) 3).toInt ∧ (fd (2 * w) 3).toInt ≤ _
    rw [fd_toInt (by decide), e2, show (3 : Int64).toInt = 3 from rfl]
    omega
  · show 0 ≤ (fd w 3).toInt ∧ (fd w 3).toInt ≤ _
    rw [fd_toInt (by decide), show (3 : Int64).toInt = 3 from rfl]
    omega
theorem sq_rng {p : Int64} {K : Int} (h : -K ≤ p.toInt ∧ p.toInt ≤ K) (hK : 0 ≤ K ∧ K * K < 9223372036854775808) : (p * p).toInt = p.toInt * p.toInt ∧ 0 ≤ p.toInt * p.toInt ∧ p.toInt * p.toInt ≤ K * K := by
  have a1 : 0 ≤ p.toInt * p.toInt := by
    rcases Int.le_total 0 p.toInt with z | z
    · exact Int.mul_nonneg z z
    · exact Int.mul_nonneg_of_nonpos_of_nonpos z z
  have a2 : p.toInt * p.toInt ≤ K * K := by
    rcases Int.le_total 0 p.toInt with z | z
    · exact Int.mul_le_mul h.2 h.2 z hK.1
    · have := Int.mul_le_mul (show -p.toInt ≤ K by omega) (show -p.toInt ≤ K by omega) (show 0 ≤ -p.toInt by omega) hK.1
      rw [Int.neg_mul_neg] at this
      exact this
  exact ⟨fb_mulL (by omega) (by omega), a1, a2⟩
theorem two_m {m : Int64} (h : 1 ≤ m.toInt ∧ m.toInt ≤ 1000000) : (2 * m).toInt = 2 * m.toInt := fb_mulL (x := 2) (by show _ ≤ 2 * m.toInt; omega) (by show 2 * m.toInt < _; omega)
theorem within_rng {m p e : Int64} (hm : 1 ≤ m.toInt ∧ m.toInt ≤ 1000000) (hp : -3000000000 ≤ p.toInt ∧ p.toInt ≤ 3000000000) (he : -1000000000000000000 ≤ e.toInt ∧ e.toInt ≤ 1000000000000000000) : (w_within m p e).toInt = e.toInt - p.toInt * p.toInt / (2 * m.toInt) := by
  obtain ⟨s1, s2, s3⟩ := sq_rng (K := 3000000000) hp (by decide)
  have q1 : (fd (p * p) (2 * m)).toInt = p.toInt * p.toInt / (2 * m.toInt) := by rw [fd_toInt (by rw [two_m hm]; omega), s1, two_m hm]
  have q2 := Int.ediv_nonneg s2 (show 0 ≤ 2 * m.toInt by omega)
  have q3 : p.toInt * p.toInt / (2 * m.toInt) ≤ 4500000000000000000 := by
    have a1 : 2 * (p.toInt * p.toInt / (2 * m.toInt)) ≤ 2 * m.toInt * (p.toInt * p.toInt / (2 * m.toInt)) := Int.mul_le_mul_of_nonneg_right (by omega) q2
    have a2 := Int.mul_ediv_self_le (x := p.toInt * p.toInt) (k := 2 * m.toInt) (by omega)
    omega
  unfold w_within
  rw [fb_subL (by rw [q1]; omega) (by rw [q1]; omega), q1]
theorem OkC.pr {g : Nat} (hg : g < 3) {M P E F : Nat → Int64} {k : Nat} (h : OkC M P E F k) : 0 ≤ (w_pr g M P E k).toInt ∧ (w_pr g M P E k).toInt ≤ 1000000000 := by
  obtain ⟨h1, h2, h3, h4, h5⟩ := h
  have e := within_rng (m := M k) (p := P k) (e := E k) h1 ⟨by omega, by omega⟩ ⟨by omega, by omega⟩
  have q2 := Int.ediv_nonneg (sq_rng (K := 3000000000) (p := P k) ⟨by omega, by omega⟩ (by decide)).2.1 (show 0 ≤ 2 * (M k).toInt by omega)
  exact pres_rng hg h4 (by omega)
/-- what the tube's cells of the reference hold -/
def TS (S : Nat → Int64) (g n lft rgt : Nat) : Prop := g < 3 ∧ S 0 = lN g ∧ (2 ≤ n ∧ n ≤ 32) ∧ S 4 = lN n ∧ (lft ≤ 1 ∧ S 5 = lN lft) ∧ (rgt ≤ 1 ∧ S 6 = lN rgt) ∧ (0 ≤ (S 2).toInt ∧ (S 2).toInt ≤ 100) ∧ (0 ≤ (S 3).toInt ∧ (S 3).toInt ≤ 1000) ∧ ∀ c, c < n → OkC (sM S) (sP S) (sE S) (sF S) c
theorem lN1 {a : Nat} (h : a ≤ 1) : lN a = 1 ↔ a = 1 := by
  rw [show (1 : Int64) = lN 1 from rfl]; exact lN_eq (by omega) (by decide)

set_option maxHeartbeats 4000000 in
set_option maxRecDepth 100000 in
theorem c_M_isCell (l : Launch) (D : va_G) (ct : Nat → ClassId) (st : Nat → Nat) (am : Nat → Nat) (th : Int32) (bu : Int64) (he : Int64) (S : Nat → Int64) (ce : Int32) : Met l y_M_isCell (wsy y_M_isCell b_M_isCell 2 (some .boolean)) (k2_rm 1 25) (PcR D ct st [.ref (am 0), .int ce] [((am 0), .inr (8, [.int th, .ref (am 1), .ref (am 2), .ref (am 3), .ref (am 4), .ref (am 5), .long bu, .long he, .ref (am 6), .ref (am 7)])), ((am 1), .inl (ct 1, 334, .inr (.inl S)))]) (k2_QcV (.int (bI (w_in ce.toInt64 0 (S 4 - 1))))) 0 0 (fun _ => False) := by
  refine enterR (by decide) (Nat.le_of_ble_eq_true rfl) ?_
  intro p e s m args below meth c ls hx hb hr hml hown hts hlk hP hE hV hS hl
  have hl : lv_has ls 2 [(0, .ref (am 0)), (1, .int ce)] := hl
  refine lv_iload_n hx hb d_M_isCell_0 rfl (lv_at hl 1 rfl) ?_
  refine lv_i2l hx hb d_M_isCell_1 rfl ?_
  refine lv_lconst (v := 0) hx hb d_M_isCell_2 (by decide) ?_
  refine lv_aload_n hx hb d_M_isCell_3 rfl (lv_at hl 0 rfl) ?_
  refine q_get 0 1 i_M rfl hx hb hts hown hE hP rfl (by decide) x_937 rfl d_M_isCell_4 ?_
  refine lv_iconst (v := 4) hx hb d_M_isCell_7 (by decide) ?_
  refine q_lald (k := 4) 1 hx hb hE hP rfl rfl (by omega) (by decide) d_M_isCell_8 ?_
  refine lv_lconst (v := 1) hx hb d_M_isCell_9 (by decide) ?_
  refine lv_lsub hx hb d_M_isCell_10 ?_
  refine cRS (As := [.long ce.toInt64, .long 0, .long ((S 4) - 1)]) (rest := []) K_M_in x_978 hx hb hml hown hts hE hV hS (c_M_in l D ct st ce.toInt64 0 ((S 4) - 1)) (fun k q h => by simp at h) rfl hl.1 rfl (Nat.le_of_ble_eq_true rfl) d_M_isCell_11 (Nat.le_of_ble_eq_true rfl) (Nat.le_of_ble_eq_true rfl) ⟨Nat.zero_le _, Nat.zero_le _⟩ ?_
  exact rR_z hx hb hr hlk d_M_isCell_14 (rfl)
set_option maxHeartbeats 4000000 in
set_option maxRecDepth 100000 in
theorem c_M_speedOf (l : Launch) (D : va_G) (ct : Nat → ClassId) (st : Nat → Nat) (am : Nat → Nat) (th : Int32) (bu : Int64) (he : Int64) (S : Nat → Int64) (k : Nat) (hk : k < 32) (hm : 1 ≤ (S (8 + k)).toInt) : Met l y_M_speedOf (wsy y_M_speedOf b_M_speedOf 2 (some .long)) (k2_rm 1 25) (PcR D ct st [.ref (am 0), .int (nI k)] [((am 0), .inr (8, [.int th, .ref (am 1), .ref (am 2), .ref (am 3), .ref (am 4), .ref (am 5), .long bu, .long he, .ref (am 6), .ref (am 7)])), ((am 1), .inl (ct 1, 334, .inr (.inl S)))]) (k2_QcV (.long (w_sp (sM S) (sP S) k))) 0 0 (fun _ => False) := by
  refine enterR (by decide) (Nat.le_of_ble_eq_true rfl) ?_
  intro p e s m args below meth c ls hx hb hr hml hown hts hlk hP hE hV hS hl
  have hl : lv_has ls 2 [(0, .ref (am 0)), (1, .int (nI k))] := hl
  refine lv_ldc2 (v := 1000) hx hb hown (hts _ (List.mem_cons_of_mem _ x_934)) d_M_speedOf_0 ?_
  refine lv_aload_n hx hb d_M_speedOf_3 rfl (lv_at hl 0 rfl) ?_
  refine q_get 0 1 i_M rfl hx hb hts hown hE hP rfl (by decide) x_937 rfl d_M_speedOf_4 ?_
  refine lv_bipush (v := 40) hx hb d_M_speedOf_7 (by decide) ?_
  refine lv_iload_n hx hb d_M_speedOf_9 rfl (lv_at hl 1 rfl) ?_
  refine q_iadd (v := nI (40 + k)) hx hb d_M_speedOf_10 (nI_add 40 k) ?_
  refine q_lald (k := 40 + k) 1 hx hb hE hP rfl rfl (by omega) (by decide) d_M_speedOf_11 ?_
  refine lv_lmul hx hb d_M_speedOf_12 ?_
  refine lv_aload_n hx hb d_M_speedOf_13 rfl (lv_at hl 0 rfl) ?_
  refine q_get 0 1 i_M rfl hx hb hts hown hE hP rfl (by decide) x_937 rfl d_M_speedOf_14 ?_
  refine lv_bipush (v := 8) hx hb d_M_speedOf_17 (by decide) ?_
  refine lv_iload_n hx hb d_M_speedOf_19 rfl (lv_at hl 1 rfl) ?_
  refine q_iadd (v := nI (8 + k)) hx hb d_M_speedOf_20 (nI_add 8 k) ?_
  refine q_lald (k := 8 + k) 1 hx hb hE hP rfl rfl (by omega) (by decide) d_M_speedOf_21 ?_
  refine cRS (As := [.long (1000 * (S (40 + k))), .long (S (8 + k))]) (rest := []) K_M_down x_1000 hx hb hml hown hts hE hV hS (c_M_down l D ct st (1000 * (S (40 + k))) (S (8 + k)) (by omega)) (fun k q h => by simp at h) rfl hl.1 rfl (Nat.le_of_ble_eq_true rfl) d_M_speedOf_22 (Nat.le_of_ble_eq_true rfl) (Nat.le_of_ble_eq_true rfl) ⟨Nat.zero_le _, Nat.zero_le _⟩ ?_
  exact rR_l hx hb hr hlk d_M_speedOf_25 (rfl)
set_option maxHeartbeats 4000000 in
set_option maxRecDepth 100000 in
theorem c_M_pressureOf (l : Launch) (D : va_G) (ct : Nat → ClassId) (st : Nat → Nat) (am : Nat → Nat) (th : Int32) (bu : Int64) (he : Int64) (S : Nat → Int64) (g : Nat) (k : Nat) (hg : g < 3) (hS0 : S 0 = lN g) (hk : k < 32) (hm : 1 ≤ (S (8 + k)).toInt ∧ (S (8 + k)).toInt ≤ 1000000) : Met l y_M_pressureOf (wsy y_M_pressureOf b_M_pressureOf 2 (some .long)) (k2_rm 3 78) (PcR D ct st [.ref (am 0), .int (nI k)] [((am 0), .inr (8, [.int th, .ref (am 1), .ref (am 2), .ref (am 3), .ref (am 4), .ref (am 5), .long bu, .long he, .ref (am 6), .ref (am 7)])), ((am 1), .inl (ct 1, 334, .inr (.inl S)))]) (k2_QcV (.long (w_pr g (sM S) (sP S) (sE S) k))) 0 0 (fun _ => False) := by
  refine enterR (by decide) (Nat.le_of_ble_eq_true rfl) ?_
  intro p e s m args below meth c ls hx hb hr hml hown hts hlk hP hE hV hS hl
  have hl : lv_has ls 2 [(0, .ref (am 0)), (1, .int (nI k))] := hl
  refine lv_aload_n hx hb d_M_pressureOf_0 rfl (lv_at hl 0 rfl) ?_
  refine lv_aload_n hx hb d_M_pressureOf_1 rfl (lv_at hl 0 rfl) ?_
  refine q_get 0 1 i_M rfl hx hb hts hown hE hP rfl (by decide) x_937 rfl d_M_pressureOf_2 ?_
  refine lv_bipush (v := 8) hx hb d_M_pressureOf_5 (by decide) ?_
  refine lv_iload_n hx hb d_M_pressureOf_7 rfl (lv_at hl 1 rfl) ?_
  refine q_iadd (v := nI (8 + k)) hx hb d_M_pressureOf_8 (nI_add 8 k) ?_
  refine q_lald (k := 8 + k) 1 hx hb hE hP rfl rfl (by omega) (by decide) d_M_pressureOf_9 ?_
  refine lv_aload_n hx hb d_M_pressureOf_10 rfl (lv_at hl 0 rfl) ?_
  refine q_get 0 1 i_M rfl hx hb hts hown hE hP rfl (by decide) x_937 rfl d_M_pressureOf_11 ?_
  refine lv_bipush (v := 40) hx hb d_M_pressureOf_14 (by decide) ?_
  refine lv_iload_n hx hb d_M_pressureOf_16 rfl (lv_at hl 1 rfl) ?_
  refine q_iadd (v := nI (40 + k)) hx hb d_M_pressureOf_17 (nI_add 40 k) ?_
  refine q_lald (k := 40 + k) 1 hx hb hE hP rfl rfl (by omega) (by decide) d_M_pressureOf_18 ?_
  refine lv_aload_n hx hb d_M_pressureOf_19 rfl (lv_at hl 0 rfl) ?_
  refine q_get 0 1 i_M rfl hx hb hts hown hE hP rfl (by decide) x_937 rfl d_M_pressureOf_20 ?_
  refine lv_bipush (v := 72) hx hb d_M_pressureOf_23 (by decide) ?_
  refine lv_iload_n hx hb d_M_pressureOf_25 rfl (lv_at hl 1 rfl) ?_
  refine q_iadd (v := nI (72 + k)) hx hb d_M_pressureOf_26 (nI_add 72 k) ?_
  refine q_lald (k := 72 + k) 1 hx hb hE hP rfl rfl (by omega) (by decide) d_M_pressureOf_27 ?_
  refine cRV (As := [.long (S (8 + k)), .long (S (40 + k)), .long (S (72 + k))]) (rest := []) (q9 := 0) (ci := 8) K_M_pressure x_1050 hx hb hml hown hts hE hV hS (c_M_pressure l D ct st am th bu he S g (S (8 + k)) (S (40 + k)) (S (72 + k)) (hg) (hS0) (hm)) hP rfl hP rfl rfl hl.1 rfl (Nat.le_of_ble_eq_true rfl) d_M_pressureOf_28 (Nat.le_of_ble_eq_true rfl) (Nat.le_of_ble_eq_true rfl) ⟨Nat.zero_le _, Nat.zero_le _⟩ ?_
  exact rR_l hx hb hr hlk d_M_pressureOf_31 (rfl)
set_option maxHeartbeats 4000000 in
set_option maxRecDepth 100000 in
theorem c_M_soundOf (l : Launch) (D : va_G) (ct : Nat → ClassId) (st : Nat → Nat) (am : Nat → Nat) (th : Int32) (bu : Int64) (he : Int64) (S : Nat → Int64) (g : Nat) (k : Nat) (hg : g < 3) (hS0 : S 0 = lN g) (hk : k < 32) (hok : OkC (sM S) (sP S) (sE S) (sF S) k) : Met l y_M_soundOf (wsy y_M_soundOf b_M_soundOf 6 (some .long)) (k2_rm 4 99) (PcR D ct st [.ref (am 0), .int (nI k)] [((am 0), .inr (8, [.int th, .ref (am 1), .ref (am 2), .ref (am 3), .ref (am 4), .ref (am 5), .long bu, .long he, .ref (am 6), .ref (am 7)])), ((am 1), .inl (ct 1, 334, .inr (.inl S)))]) (k2_QcV (.long (w_so g (sM S) (sP S) (sE S) k))) 0 0 (fun _ => False) := by
  refine enterR (by decide) (Nat.le_of_ble_eq_true rfl) ?_
  intro p e s m args below meth c ls hx hb hr hml hown hts hlk hP hE hV hS hl
  have hl : lv_has ls 6 [(0, .ref (am 0)), (1, .int (nI k))] := hl
  have hp9 := hok.pr hg
  have hm9 := hok.1
  have join_37 : ∀ (tt : Int64) (htt : tt = w_times g) (ls : Array Slot), lv_has ls 6 [(0, .ref (am 0)), (1, .int (nI k))] → W p l e (k2_rm 4 99) s m args below meth c s.heap [] 0 0 (MQ below (k2_QcV (.long (w_so g (sM S) (sP S) (sE S) k))) args s 0 0 (fun _ => False)) (F0 m 37 ls [.long tt]) := by
    intro tt htt ls hl
    refine lv_lstore_n (lv' := [(2, .long tt), (0, .ref (am 0)), (1, .int (nI k))]) hx hb d_M_soundOf_37 rfl hl (by decide) rfl (fun ls hl => ?_)
    have join_58 : ∀ (by9 : Int64) (hby : by9 = w_by g) (ls : Array Slot), lv_has ls 6 [(0, .ref (am 0)), (1, .int (nI k)), (2, .long tt)] → W p l e (k2_rm 4 99) s m args below meth c s.heap [] 0 0 (MQ below (k2_QcV (.long (w_so g (sM S) (sP S) (sE S) k))) args s 0 0 (fun _ => False)) (F0 m 58 ls [.long by9]) := by
      intro by9 hby ls hl
      refine lv_lstore (lv' := [(4, .long by9), (0, .ref (am 0)), (1, .int (nI k)), (2, .long tt)]) hx hb d_M_soundOf_58 hl (by decide) rfl (fun ls hl => ?_)
      refine lv_aload_n hx hb d_M_soundOf_60 rfl (lv_at hl 1 rfl) ?_
      refine lv_iload_n hx hb d_M_soundOf_61 rfl (lv_at hl 2 rfl) ?_
      refine cRV (As := [.int (nI k)]) (rest := []) (q9 := 0) (ci := 8) K_M_pressureOf x_1046 hx hb hml hown hts hE hV hS (c_M_pressureOf l D ct st am th bu he S g k (hg) (hS0) (by omega) (hok.1)) hP rfl hP rfl rfl hl.1 rfl (Nat.le_of_ble_eq_true rfl) d_M_soundOf_62 (Nat.le_of_ble_eq_true rfl) (Nat.le_of_ble_eq_true rfl) ⟨Nat.zero_le _, Nat.zero_le _⟩ ?_
      refine lv_lload_n hx hb d_M_soundOf_65 rfl (lv_at hl 3 rfl) ?_
      refine lv_lmul hx hb d_M_soundOf_66 ?_
      refine lv_ldc2 (v := 1000000) hx hb hown (hts _ (List.mem_cons_of_mem _ x_993)) d_M_soundOf_67 ?_
      refine lv_lmul hx hb d_M_soundOf_70 ?_
      refine lv_aload_n hx hb d_M_soundOf_71 rfl (lv_at hl 1 rfl) ?_
      refine q_get 0 1 i_M rfl hx hb hts hown hE hP rfl (by decide) x_937 rfl d_M_soundOf_72 ?_
      refine lv_bipush (v := 8) hx hb d_M_soundOf_75 (by decide) ?_
      refine lv_iload_n hx hb d_M_soundOf_77 rfl (lv_at hl 2 rfl) ?_
      refine q_iadd (v := nI (8 + k)) hx hb d_M_soundOf_78 (nI_add 8 k) ?_
      refine q_lald (k := 8 + k) 1 hx hb hE hP rfl rfl (by omega) (by decide) d_M_soundOf_79 ?_
      refine cRS (As := [.long (((w_pr g (sM S) (sP S) (sE S) k) * tt) * 1000000), .long (S (8 + k))]) (rest := []) K_M_down x_1000 hx hb hml hown hts hE hV hS (c_M_down l D ct st (((w_pr g (sM S) (sP S) (sE S) k) * tt) * 1000000) (S (8 + k)) (by have := hok.1.1; exact this)) (fun k q h => by simp at h) rfl hl.1 rfl (Nat.le_of_ble_eq_true rfl) d_M_soundOf_80 (Nat.le_of_ble_eq_true rfl) (Nat.le_of_ble_eq_true rfl) ⟨Nat.zero_le _, Nat.zero_le _⟩ ?_
      refine lv_lload hx hb d_M_soundOf_83 (lv_at hl 0 rfl) ?_
      refine cRS (As := [.long (fd (((w_pr g (sM S) (sP S) (sE S) k) * tt) * 1000000) (S (8 + k))), .long by9]) (rest := []) K_M_down x_1000 hx hb hml hown hts hE hV hS (c_M_down l D ct st (fd (((w_pr g (sM S) (sP S) (sE S) k) * tt) * 1000000) (S (8 + k))) by9 (by rw [hby]; exact w_by_pos g)) (fun k q h => by simp at h) rfl hl.1 rfl (Nat.le_of_ble_eq_true rfl) d_M_soundOf_85 (Nat.le_of_ble_eq_true rfl) (Nat.le_of_ble_eq_true rfl) ⟨Nat.zero_le _, Nat.zero_le _⟩ ?_
      refine cRS (As := [.long (fd (fd (((w_pr g (sM S) (sP S) (sE S) k) * tt) * 1000000) (S (8 + k))) by9)]) (rest := []) K_M_root x_1054 hx hb hml hown hts hE hV hS (c_M_root l D ct st (fd (fd (((w_pr g (sM S) (sP S) (sE S) k) * tt) * 1000000) (S (8 + k))) by9) (by rw [htt, hby]; exact snd_rng hg hok.1.1 hp9)) (fun k q h => by simp at h) rfl hl.1 rfl (Nat.le_of_ble_eq_true rfl) d_M_soundOf_88 (Nat.le_of_ble_eq_true rfl) (Nat.le_of_ble_eq_true rfl) ⟨Nat.zero_le _, Nat.zero_le _⟩ ?_
      exact rR_l hx hb hr hlk d_M_soundOf_91 (by rw [htt, hby]; rfl)
    refine lv_aload_n hx hb d_M_soundOf_38 rfl (lv_at hl 1 rfl) ?_
    refine q_get 0 1 i_M rfl hx hb hts hown hE hP rfl (by decide) x_937 rfl d_M_soundOf_39 ?_
    refine lv_iconst (v := 0) hx hb d_M_soundOf_42 (by decide) ?_
    refine q_lald (k := 0) 1 hx hb hE hP rfl rfl (by omega) (by decide) d_M_soundOf_43 ?_
    refine q_topl (v := lN g) (hS0) ?_
    refine lv_lconst (v := 0) hx hb d_M_soundOf_44 (by decide) ?_
    refine W.lcmp hx hb d_M_soundOf_45 ?_
    refine q_cmp_ne (tgt := 55) hx hb d_M_soundOf_46 (by decide) (fun h_46 => ?_) (fun h_46 => ?_)
    · refine lv_ldc2 (v := 3) hx hb hown (hts _ (List.mem_cons_of_mem _ x_1045)) d_M_soundOf_55 ?_
      exact join_58 3 (by unfold w_by; first | rw [if_pos ((lNg0 hg).mp h_46)] | rw [if_neg (fun z => h_46 ((lNg0 hg).mpr z))]) ls (lv_sub hl [1, 2, 0] rfl)
    · refine lv_ldc2 (v := 5) hx hb hown (hts _ (List.mem_cons_of_mem _ x_1043)) d_M_soundOf_49 ?_
      refine lv_goto (tgt := 58) hx hb d_M_soundOf_52 (by decide) ?_
      exact join_58 5 (by unfold w_by; first | rw [if_pos ((lNg0 hg).mp h_46)] | rw [if_neg (fun z => h_46 ((lNg0 hg).mpr z))]) ls (lv_sub hl [1, 2, 0] rfl)
  refine lv_aload_n hx hb d_M_soundOf_0 rfl (lv_at hl 0 rfl) ?_
  refine q_get 0 1 i_M rfl hx hb hts hown hE hP rfl (by decide) x_937 rfl d_M_soundOf_1 ?_
  refine lv_iconst (v := 0) hx hb d_M_soundOf_4 (by decide) ?_
  refine q_lald (k := 0) 1 hx hb hE hP rfl rfl (by omega) (by decide) d_M_soundOf_5 ?_
  refine q_topl (v := lN g) (hS0) ?_
  refine lv_lconst (v := 0) hx hb d_M_soundOf_6 (by decide) ?_
  refine W.lcmp hx hb d_M_soundOf_7 ?_
  refine q_cmp_ne (tgt := 17) hx hb d_M_soundOf_8 (by decide) (fun h_8 => ?_) (fun h_8 => ?_)
  · refine lv_aload_n hx hb d_M_soundOf_17 rfl (lv_at hl 0 rfl) ?_
    refine q_get 0 1 i_M rfl hx hb hts hown hE hP rfl (by decide) x_937 rfl d_M_soundOf_18 ?_
    refine lv_iconst (v := 0) hx hb d_M_soundOf_21 (by decide) ?_
    refine q_lald (k := 0) 1 hx hb hE hP rfl rfl (by omega) (by decide) d_M_soundOf_22 ?_
    refine q_topl (v := lN g) (hS0) ?_
    refine lv_lconst (v := 1) hx hb d_M_soundOf_23 (by decide) ?_
    refine W.lcmp hx hb d_M_soundOf_24 ?_
    refine q_cmp_ne (tgt := 34) hx hb d_M_soundOf_25 (by decide) (fun h_25 => ?_) (fun h_25 => ?_)
    · refine lv_ldc2 (v := 4) hx hb hown (hts _ (List.mem_cons_of_mem _ x_1044)) d_M_soundOf_34 ?_
      exact join_37 4 (by unfold w_times; first | rw [if_pos ((lNg0 hg).mp h_8)] | rw [if_neg (fun z => h_8 ((lNg0 hg).mpr z)), if_pos ((lNg1 hg).mp h_25)] | rw [if_neg (fun z => h_8 ((lNg0 hg).mpr z)), if_neg (fun z => h_25 ((lNg1 hg).mpr z))]) ls (lv_sub hl [0, 1] rfl)
    · refine lv_ldc2 (v := 5) hx hb hown (hts _ (List.mem_cons_of_mem _ x_1043)) d_M_soundOf_28 ?_
      refine lv_goto (tgt := 37) hx hb d_M_soundOf_31 (by decide) ?_
      exact join_37 5 (by unfold w_times; first | rw [if_pos ((lNg0 hg).mp h_8)] | rw [if_neg (fun z => h_8 ((lNg0 hg).mpr z)), if_pos ((lNg1 hg).mp h_25)] | rw [if_neg (fun z => h_8 ((lNg0 hg).mpr z)), if_neg (fun z => h_25 ((lNg1 hg).mpr z))]) ls (lv_sub hl [0, 1] rfl)
  · refine lv_ldc2 (v := 7) hx hb hown (hts _ (List.mem_cons_of_mem _ x_1042)) d_M_soundOf_11 ?_
    refine lv_goto (tgt := 37) hx hb d_M_soundOf_14 (by decide) ?_
    exact join_37 7 (by unfold w_times; first | rw [if_pos ((lNg0 hg).mp h_8)] | rw [if_neg (fun z => h_8 ((lNg0 hg).mpr z)), if_pos ((lNg1 hg).mp h_25)] | rw [if_neg (fun z => h_8 ((lNg0 hg).mpr z)), if_neg (fun z => h_25 ((lNg1 hg).mpr z))]) ls (lv_sub hl [0, 1] rfl)
set_option maxHeartbeats 4000000 in
set_option maxRecDepth 100000 in
theorem c_M_fastOf (l : Launch) (D : va_G) (ct : Nat → ClassId) (st : Nat → Nat) (am : Nat → Nat) (th : Int32) (bu : Int64) (he : Int64) (S : Nat → Int64) (g : Nat) (k : Nat) (hg : g < 3) (hS0 : S 0 = lN g) (hk : k < 32) (hok : OkC (sM S) (sP S) (sE S) (sF S) k) : Met l y_M_fastOf (wsy y_M_fastOf b_M_fastOf 2 (some .long)) (k2_rm 5 124) (PcR D ct st [.ref (am 0), .int (nI k)] [((am 0), .inr (8, [.int th, .ref (am 1), .ref (am 2), .ref (am 3), .ref (am 4), .ref (am 5), .long bu, .long he, .ref (am 6), .ref (am 7)])), ((am 1), .inl (ct 1, 334, .inr (.inl S)))]) (k2_QcV (.long (w_fast g (sM S) (sP S) (sE S) k))) 0 0 (fun _ => False) := by
  refine enterR (by decide) (Nat.le_of_ble_eq_true rfl) ?_
  intro p e s m args below meth c ls hx hb hr hml hown hts hlk hP hE hV hS hl
  have hl : lv_has ls 2 [(0, .ref (am 0)), (1, .int (nI k))] := hl
  refine lv_aload_n hx hb d_M_fastOf_0 rfl (lv_at hl 0 rfl) ?_
  refine lv_iload_n hx hb d_M_fastOf_1 rfl (lv_at hl 1 rfl) ?_
  refine cRV (As := [.int (nI k)]) (rest := []) (q9 := 0) (ci := 8) K_M_speedOf x_1031 hx hb hml hown hts hE hV hS (c_M_speedOf l D ct st am th bu he S k (by omega) (hok.1.1)) hP rfl hP rfl rfl hl.1 rfl (Nat.le_of_ble_eq_true rfl) d_M_fastOf_2 (Nat.le_of_ble_eq_true rfl) (Nat.le_of_ble_eq_true rfl) ⟨Nat.zero_le _, Nat.zero_le _⟩ ?_
  refine cRS (As := [.long (w_sp (sM S) (sP S) k)]) (rest := []) K_M_size x_1035 hx hb hml hown hts hE hV hS (c_M_size l D ct st (w_sp (sM S) (sP S) k)) (fun k q h => by simp at h) rfl hl.1 rfl (Nat.le_of_ble_eq_true rfl) d_M_fastOf_5 (Nat.le_of_ble_eq_true rfl) (Nat.le_of_ble_eq_true rfl) ⟨Nat.zero_le _, Nat.zero_le _⟩ ?_
  refine lv_aload_n hx hb d_M_fastOf_8 rfl (lv_at hl 0 rfl) ?_
  refine lv_iload_n hx hb d_M_fastOf_9 rfl (lv_at hl 1 rfl) ?_
  refine cRV (As := [.int (nI k)]) (rest := [.long (w_sz (w_sp (sM S) (sP S) k))]) (q9 := 0) (ci := 8) K_M_soundOf x_1038 hx hb hml hown hts hE hV hS (c_M_soundOf l D ct st am th bu he S g k (hg) (hS0) (by omega) (hok)) hP rfl hP rfl rfl hl.1 rfl (Nat.le_of_ble_eq_true rfl) d_M_fastOf_10 (Nat.le_of_ble_eq_true rfl) (Nat.le_of_ble_eq_true rfl) ⟨Nat.zero_le _, Nat.zero_le _⟩ ?_
  refine lv_ladd hx hb d_M_fastOf_13 ?_
  exact rR_l hx hb hr hlk d_M_fastOf_14 (rfl)
set_option maxHeartbeats 4000000 in
set_option maxRecDepth 100000 in
theorem c_M_momentumQ (l : Launch) (D : va_G) (ct : Nat → ClassId) (st : Nat → Nat) (am : Nat → Nat) (th : Int32) (bu : Int64) (he : Int64) (S : Nat → Int64) (g : Nat) (k : Nat) (hg : g < 3) (hS0 : S 0 = lN g) (hk : k < 32) (hm : 1 ≤ (S (8 + k)).toInt ∧ (S (8 + k)).toInt ≤ 1000000) : Met l y_M_momentumQ (wsy y_M_momentumQ b_M_momentumQ 2 (some .long)) (k2_rm 4 99) (PcR D ct st [.ref (am 0), .int (nI k)] [((am 0), .inr (8, [.int th, .ref (am 1), .ref (am 2), .ref (am 3), .ref (am 4), .ref (am 5), .long bu, .long he, .ref (am 6), .ref (am 7)])), ((am 1), .inl (ct 1, 334, .inr (.inl S)))]) (k2_QcV (.long (w_mq g (sM S) (sP S) (sE S) k))) 0 0 (fun _ => False) := by
  refine enterR (by decide) (Nat.le_of_ble_eq_true rfl) ?_
  intro p e s m args below meth c ls hx hb hr hml hown hts hlk hP hE hV hS hl
  have hl : lv_has ls 2 [(0, .ref (am 0)), (1, .int (nI k))] := hl
  refine lv_aload_n hx hb d_M_momentumQ_0 rfl (lv_at hl 0 rfl) ?_
  refine q_get 0 1 i_M rfl hx hb hts hown hE hP rfl (by decide) x_937 rfl d_M_momentumQ_1 ?_
  refine lv_bipush (v := 40) hx hb d_M_momentumQ_4 (by decide) ?_
  refine lv_iload_n hx hb d_M_momentumQ_6 rfl (lv_at hl 1 rfl) ?_
  refine q_iadd (v := nI (40 + k)) hx hb d_M_momentumQ_7 (nI_add 40 k) ?_
  refine q_lald (k := 40 + k) 1 hx hb hE hP rfl rfl (by omega) (by decide) d_M_momentumQ_8 ?_
  refine lv_aload_n hx hb d_M_momentumQ_9 rfl (lv_at hl 0 rfl) ?_
  refine q_get 0 1 i_M rfl hx hb hts hown hE hP rfl (by decide) x_937 rfl d_M_momentumQ_10 ?_
  refine lv_bipush (v := 40) hx hb d_M_momentumQ_13 (by decide) ?_
  refine lv_iload_n hx hb d_M_momentumQ_15 rfl (lv_at hl 1 rfl) ?_
  refine q_iadd (v := nI (40 + k)) hx hb d_M_momentumQ_16 (nI_add 40 k) ?_
  refine q_lald (k := 40 + k) 1 hx hb hE hP rfl rfl (by omega) (by decide) d_M_momentumQ_17 ?_
  refine lv_lmul hx hb d_M_momentumQ_18 ?_
  refine lv_aload_n hx hb d_M_momentumQ_19 rfl (lv_at hl 0 rfl) ?_
  refine q_get 0 1 i_M rfl hx hb hts hown hE hP rfl (by decide) x_937 rfl d_M_momentumQ_20 ?_
  refine lv_bipush (v := 8) hx hb d_M_momentumQ_23 (by decide) ?_
  refine lv_iload_n hx hb d_M_momentumQ_25 rfl (lv_at hl 1 rfl) ?_
  refine q_iadd (v := nI (8 + k)) hx hb d_M_momentumQ_26 (nI_add 8 k) ?_
  refine q_lald (k := 8 + k) 1 hx hb hE hP rfl rfl (by omega) (by decide) d_M_momentumQ_27 ?_
  refine cRS (As := [.long ((S (40 + k)) * (S (40 + k))), .long (S (8 + k))]) (rest := []) K_M_down x_1000 hx hb hml hown hts hE hV hS (c_M_down l D ct st ((S (40 + k)) * (S (40 + k))) (S (8 + k)) (by omega)) (fun k q h => by simp at h) rfl hl.1 rfl (Nat.le_of_ble_eq_true rfl) d_M_momentumQ_28 (Nat.le_of_ble_eq_true rfl) (Nat.le_of_ble_eq_true rfl) ⟨Nat.zero_le _, Nat.zero_le _⟩ ?_
  refine lv_aload_n hx hb d_M_momentumQ_31 rfl (lv_at hl 0 rfl) ?_
  refine lv_iload_n hx hb d_M_momentumQ_32 rfl (lv_at hl 1 rfl) ?_
  refine cRV (As := [.int (nI k)]) (rest := [.long (fd ((S (40 + k)) * (S (40 + k))) (S (8 + k)))]) (q9 := 0) (ci := 8) K_M_pressureOf x_1046 hx hb hml hown hts hE hV hS (c_M_pressureOf l D ct st am th bu he S g k (hg) (hS0) (by omega) (hm)) hP rfl hP rfl rfl hl.1 rfl (Nat.le_of_ble_eq_true rfl) d_M_momentumQ_33 (Nat.le_of_ble_eq_true rfl) (Nat.le_of_ble_eq_true rfl) ⟨Nat.zero_le _, Nat.zero_le _⟩ ?_
  refine lv_ladd hx hb d_M_momentumQ_36 ?_
  exact rR_l hx hb hr hlk d_M_momentumQ_37 (rfl)
set_option maxHeartbeats 4000000 in
set_option maxRecDepth 100000 in
theorem c_M_energyQ (l : Launch) (D : va_G) (ct : Nat → ClassId) (st : Nat → Nat) (am : Nat → Nat) (th : Int32) (bu : Int64) (he : Int64) (S : Nat → Int64) (g : Nat) (k : Nat) (hg : g < 3) (hS0 : S 0 = lN g) (hk : k < 32) (hm : 1 ≤ (S (8 + k)).toInt ∧ (S (8 + k)).toInt ≤ 1000000) : Met l y_M_energyQ (wsy y_M_energyQ b_M_energyQ 2 (some .long)) (k2_rm 4 99) (PcR D ct st [.ref (am 0), .int (nI k)] [((am 0), .inr (8, [.int th, .ref (am 1), .ref (am 2), .ref (am 3), .ref (am 4), .ref (am 5), .long bu, .long he, .ref (am 6), .ref (am 7)])), ((am 1), .inl (ct 1, 334, .inr (.inl S)))]) (k2_QcV (.long (w_eq g (sM S) (sP S) (sE S) k))) 0 0 (fun _ => False) := by
  refine enterR (by decide) (Nat.le_of_ble_eq_true rfl) ?_
  intro p e s m args below meth c ls hx hb hr hml hown hts hlk hP hE hV hS hl
  have hl : lv_has ls 2 [(0, .ref (am 0)), (1, .int (nI k))] := hl
  refine lv_aload_n hx hb d_M_energyQ_0 rfl (lv_at hl 0 rfl) ?_
  refine q_get 0 1 i_M rfl hx hb hts hown hE hP rfl (by decide) x_937 rfl d_M_energyQ_1 ?_
  refine lv_bipush (v := 72) hx hb d_M_energyQ_4 (by decide) ?_
  refine lv_iload_n hx hb d_M_energyQ_6 rfl (lv_at hl 1 rfl) ?_
  refine q_iadd (v := nI (72 + k)) hx hb d_M_energyQ_7 (nI_add 72 k) ?_
  refine q_lald (k := 72 + k) 1 hx hb hE hP rfl rfl (by omega) (by decide) d_M_energyQ_8 ?_
  refine lv_aload_n hx hb d_M_energyQ_9 rfl (lv_at hl 0 rfl) ?_
  refine lv_iload_n hx hb d_M_energyQ_10 rfl (lv_at hl 1 rfl) ?_
  refine cRV (As := [.int (nI k)]) (rest := [.long (S (72 + k))]) (q9 := 0) (ci := 8) K_M_pressureOf x_1046 hx hb hml hown hts hE hV hS (c_M_pressureOf l D ct st am th bu he S g k (hg) (hS0) (by omega) (hm)) hP rfl hP rfl rfl hl.1 rfl (Nat.le_of_ble_eq_true rfl) d_M_energyQ_11 (Nat.le_of_ble_eq_true rfl) (Nat.le_of_ble_eq_true rfl) ⟨Nat.zero_le _, Nat.zero_le _⟩ ?_
  refine lv_ladd hx hb d_M_energyQ_14 ?_
  refine lv_aload_n hx hb d_M_energyQ_15 rfl (lv_at hl 0 rfl) ?_
  refine q_get 0 1 i_M rfl hx hb hts hown hE hP rfl (by decide) x_937 rfl d_M_energyQ_16 ?_
  refine lv_bipush (v := 40) hx hb d_M_energyQ_19 (by decide) ?_
  refine lv_iload_n hx hb d_M_energyQ_21 rfl (lv_at hl 1 rfl) ?_
  refine q_iadd (v := nI (40 + k)) hx hb d_M_energyQ_22 (nI_add 40 k) ?_
  refine q_lald (k := 40 + k) 1 hx hb hE hP rfl rfl (by omega) (by decide) d_M_energyQ_23 ?_
  refine lv_lmul hx hb d_M_energyQ_24 ?_
  refine lv_aload_n hx hb d_M_energyQ_25 rfl (lv_at hl 0 rfl) ?_
  refine q_get 0 1 i_M rfl hx hb hts hown hE hP rfl (by decide) x_937 rfl d_M_energyQ_26 ?_
  refine lv_bipush (v := 8) hx hb d_M_energyQ_29 (by decide) ?_
  refine lv_iload_n hx hb d_M_energyQ_31 rfl (lv_at hl 1 rfl) ?_
  refine q_iadd (v := nI (8 + k)) hx hb d_M_energyQ_32 (nI_add 8 k) ?_
  refine q_lald (k := 8 + k) 1 hx hb hE hP rfl rfl (by omega) (by decide) d_M_energyQ_33 ?_
  refine cRS (As := [.long (((S (72 + k)) + (w_pr g (sM S) (sP S) (sE S) k)) * (S (40 + k))), .long (S (8 + k))]) (rest := []) K_M_down x_1000 hx hb hml hown hts hE hV hS (c_M_down l D ct st (((S (72 + k)) + (w_pr g (sM S) (sP S) (sE S) k)) * (S (40 + k))) (S (8 + k)) (by omega)) (fun k q h => by simp at h) rfl hl.1 rfl (Nat.le_of_ble_eq_true rfl) d_M_energyQ_34 (Nat.le_of_ble_eq_true rfl) (Nat.le_of_ble_eq_true rfl) ⟨Nat.zero_le _, Nat.zero_le _⟩ ?_
  exact rR_l hx hb hr hlk d_M_energyQ_37 (rfl)
set_option maxHeartbeats 4000000 in
set_option maxRecDepth 100000 in
theorem c_M_fuelOver (l : Launch) (D : va_G) (ct : Nat → ClassId) (st : Nat → Nat) (am : Nat → Nat) (th : Int32) (bu : Int64) (he : Int64) (S : Nat → Int64) (ma : Int64) (lf : Nat) (rg : Nat) (hlf : lf < 32) (hrg : rg < 32) (hmL : 1 ≤ (S (8 + lf)).toInt) (hmR : 1 ≤ (S (8 + rg)).toInt) : Met l y_M_fuelOver (wsy y_M_fuelOver b_M_fuelOver 8 (some .long)) (k2_rm 1 25) (PcR D ct st [.ref (am 0), .long ma, .int (nI lf), .int (nI rg)] [((am 0), .inr (8, [.int th, .ref (am 1), .ref (am 2), .ref (am 3), .ref (am 4), .ref (am 5), .long bu, .long he, .ref (am 6), .ref (am 7)])), ((am 1), .inl (ct 1, 334, .inr (.inl S)))]) (k2_QcV (.long (w_fu (sM S) (sF S) ma lf rg))) 0 0 (fun _ => False) := by
  refine enterR (by decide) (Nat.le_of_ble_eq_true rfl) ?_
  intro p e s m args below meth c ls hx hb hr hml hown hts hlk hP hE hV hS hl
  have hl : lv_has ls 8 [(0, .ref (am 0)), (1, .long ma), (3, .int (nI lf)), (4, .int (nI rg))] := hl
  refine lv_lload_n hx hb d_M_fuelOver_0 rfl (lv_at hl 1 rfl) ?_
  refine lv_lconst (v := 0) hx hb d_M_fuelOver_1 (by decide) ?_
  refine W.lcmp hx hb d_M_fuelOver_2 ?_
  refine q_cmp_le (tgt := 10) hx hb d_M_fuelOver_3 (by decide) (fun h_3 => ?_) (fun h_3 => ?_)
  · refine lv_iload hx hb d_M_fuelOver_10 (lv_at hl 3 rfl) ?_
    refine lv_istore (lv' := [(5, .int (nI rg)), (0, .ref (am 0)), (1, .long ma), (3, .int (nI lf)), (4, .int (nI rg))]) hx hb d_M_fuelOver_12 hl (by decide) rfl (fun ls hl => ?_)
    refine lv_lload_n hx hb d_M_fuelOver_14 rfl (lv_at hl 2 rfl) ?_
    refine cRS (As := [.long ma]) (rest := []) K_M_size x_1035 hx hb hml hown hts hE hV hS (c_M_size l D ct st ma) (fun k q h => by simp at h) rfl hl.1 rfl (Nat.le_of_ble_eq_true rfl) d_M_fuelOver_15 (Nat.le_of_ble_eq_true rfl) (Nat.le_of_ble_eq_true rfl) ⟨Nat.zero_le _, Nat.zero_le _⟩ ?_
    refine lv_aload_n hx hb d_M_fuelOver_18 rfl (lv_at hl 1 rfl) ?_
    refine q_get 0 1 i_M rfl hx hb hts hown hE hP rfl (by decide) x_937 rfl d_M_fuelOver_19 ?_
    refine lv_bipush (v := 104) hx hb d_M_fuelOver_22 (by decide) ?_
    refine lv_iload hx hb d_M_fuelOver_24 (lv_at hl 0 rfl) ?_
    refine q_iadd (v := nI (104 + rg)) hx hb d_M_fuelOver_26 (nI_add 104 rg) ?_
    refine q_lald (k := 104 + rg) 1 hx hb hE hP rfl rfl (by omega) (by decide) d_M_fuelOver_27 ?_
    refine lv_lmul hx hb d_M_fuelOver_28 ?_
    refine lv_aload_n hx hb d_M_fuelOver_29 rfl (lv_at hl 1 rfl) ?_
    refine q_get 0 1 i_M rfl hx hb hts hown hE hP rfl (by decide) x_937 rfl d_M_fuelOver_30 ?_
    refine lv_bipush (v := 8) hx hb d_M_fuelOver_33 (by decide) ?_
    refine lv_iload hx hb d_M_fuelOver_35 (lv_at hl 0 rfl) ?_
    refine q_iadd (v := nI (8 + rg)) hx hb d_M_fuelOver_37 (nI_add 8 rg) ?_
    refine q_lald (k := 8 + rg) 1 hx hb hE hP rfl rfl (by omega) (by decide) d_M_fuelOver_38 ?_
    refine cRS (As := [.long ((w_sz ma) * (S (104 + rg))), .long (S (8 + rg))]) (rest := []) K_M_down x_1000 hx hb hml hown hts hE hV hS (c_M_down l D ct st ((w_sz ma) * (S (104 + rg))) (S (8 + rg)) (by omega)) (fun k q h => by simp at h) rfl hl.1 rfl (Nat.le_of_ble_eq_true rfl) d_M_fuelOver_39 (Nat.le_of_ble_eq_true rfl) (Nat.le_of_ble_eq_true rfl) ⟨Nat.zero_le _, Nat.zero_le _⟩ ?_
    refine lv_lstore (lv' := [(6, .long (fd ((w_sz ma) * (S (104 + rg))) (S (8 + rg)))), (5, .int (nI rg)), (0, .ref (am 0)), (1, .long ma), (3, .int (nI lf)), (4, .int (nI rg))]) hx hb d_M_fuelOver_42 hl (by decide) rfl (fun ls hl => ?_)
    refine lv_lload hx hb d_M_fuelOver_44 (lv_at hl 0 rfl) ?_
    refine lv_aload_n hx hb d_M_fuelOver_46 rfl (lv_at hl 2 rfl) ?_
    refine q_get 0 1 i_M rfl hx hb hts hown hE hP rfl (by decide) x_937 rfl d_M_fuelOver_47 ?_
    refine lv_bipush (v := 104) hx hb d_M_fuelOver_50 (by decide) ?_
    refine lv_iload hx hb d_M_fuelOver_52 (lv_at hl 1 rfl) ?_
    refine q_iadd (v := nI (104 + rg)) hx hb d_M_fuelOver_54 (nI_add 104 rg) ?_
    refine q_lald (k := 104 + rg) 1 hx hb hE hP rfl rfl (by omega) (by decide) d_M_fuelOver_55 ?_
    refine W.lcmp hx hb d_M_fuelOver_56 ?_
    refine q_cmp_le (tgt := 73) hx hb d_M_fuelOver_57 (by decide) (fun h_57 => ?_) (fun h_57 => ?_)
    · refine lv_lload hx hb d_M_fuelOver_73 (lv_at hl 0 rfl) ?_
      refine lv_lstore (lv' := [(6, .long (fd ((w_sz ma) * (S (104 + rg))) (S (8 + rg)))), (5, .int (nI rg)), (0, .ref (am 0)), (1, .long ma), (3, .int (nI lf)), (4, .int (nI rg))]) hx hb d_M_fuelOver_75 hl (by decide) rfl (fun ls hl => ?_)
      refine lv_lload_n hx hb d_M_fuelOver_77 rfl (lv_at hl 3 rfl) ?_
      refine lv_lconst (v := 0) hx hb d_M_fuelOver_78 (by decide) ?_
      refine W.lcmp hx hb d_M_fuelOver_79 ?_
      refine q_cmp_le (tgt := 88) hx hb d_M_fuelOver_80 (by decide) (fun h_80 => ?_) (fun h_80 => ?_)
      · refine lv_lload hx hb d_M_fuelOver_88 (lv_at hl 0 rfl) ?_
        refine lv_lneg hx hb d_M_fuelOver_90 ?_
        exact rR_l hx hb hr hlk d_M_fuelOver_91 (by unfold w_fu w_fu1; first | exact absurd h_80 h_3 | exact absurd h_3 h_80 | rw [if_pos h_3, if_pos h_57] | rw [if_pos h_3, if_neg h_57] | rw [if_neg h_3, if_pos h_57] | rw [if_neg h_3, if_neg h_57])
      · refine lv_lload hx hb d_M_fuelOver_83 (lv_at hl 0 rfl) ?_
        refine lv_goto (tgt := 91) hx hb d_M_fuelOver_85 (by decide) ?_
        exact rR_l hx hb hr hlk d_M_fuelOver_91 (by unfold w_fu w_fu1; first | exact absurd h_80 h_3 | exact absurd h_3 h_80 | rw [if_pos h_3, if_pos h_57] | rw [if_pos h_3, if_neg h_57] | rw [if_neg h_3, if_pos h_57] | rw [if_neg h_3, if_neg h_57])
    · refine lv_aload_n hx hb d_M_fuelOver_60 rfl (lv_at hl 2 rfl) ?_
      refine q_get 0 1 i_M rfl hx hb hts hown hE hP rfl (by decide) x_937 rfl d_M_fuelOver_61 ?_
      refine lv_bipush (v := 104) hx hb d_M_fuelOver_64 (by decide) ?_
      refine lv_iload hx hb d_M_fuelOver_66 (lv_at hl 1 rfl) ?_
      refine q_iadd (v := nI (104 + rg)) hx hb d_M_fuelOver_68 (nI_add 104 rg) ?_
      refine q_lald (k := 104 + rg) 1 hx hb hE hP rfl rfl (by omega) (by decide) d_M_fuelOver_69 ?_
      refine lv_goto (tgt := 75) hx hb d_M_fuelOver_70 (by decide) ?_
      refine lv_lstore (lv' := [(6, .long (S (104 + rg))), (5, .int (nI rg)), (0, .ref (am 0)), (1, .long ma), (3, .int (nI lf)), (4, .int (nI rg))]) hx hb d_M_fuelOver_75 hl (by decide) rfl (fun ls hl => ?_)
      refine lv_lload_n hx hb d_M_fuelOver_77 rfl (lv_at hl 3 rfl) ?_
      refine lv_lconst (v := 0) hx hb d_M_fuelOver_78 (by decide) ?_
      refine W.lcmp hx hb d_M_fuelOver_79 ?_
      refine q_cmp_le (tgt := 88) hx hb d_M_fuelOver_80 (by decide) (fun h_80 => ?_) (fun h_80 => ?_)
      · refine lv_lload hx hb d_M_fuelOver_88 (lv_at hl 0 rfl) ?_
        refine lv_lneg hx hb d_M_fuelOver_90 ?_
        exact rR_l hx hb hr hlk d_M_fuelOver_91 (by unfold w_fu w_fu1; first | exact absurd h_80 h_3 | exact absurd h_3 h_80 | rw [if_pos h_3, if_pos h_57] | rw [if_pos h_3, if_neg h_57] | rw [if_neg h_3, if_pos h_57] | rw [if_neg h_3, if_neg h_57])
      · refine lv_lload hx hb d_M_fuelOver_83 (lv_at hl 0 rfl) ?_
        refine lv_goto (tgt := 91) hx hb d_M_fuelOver_85 (by decide) ?_
        exact rR_l hx hb hr hlk d_M_fuelOver_91 (by unfold w_fu w_fu1; first | exact absurd h_80 h_3 | exact absurd h_3 h_80 | rw [if_pos h_3, if_pos h_57] | rw [if_pos h_3, if_neg h_57] | rw [if_neg h_3, if_pos h_57] | rw [if_neg h_3, if_neg h_57])
  · refine lv_iload_n hx hb d_M_fuelOver_6 rfl (lv_at hl 2 rfl) ?_
    refine lv_goto (tgt := 12) hx hb d_M_fuelOver_7 (by decide) ?_
    refine lv_istore (lv' := [(5, .int (nI lf)), (0, .ref (am 0)), (1, .long ma), (3, .int (nI lf)), (4, .int (nI rg))]) hx hb d_M_fuelOver_12 hl (by decide) rfl (fun ls hl => ?_)
    refine lv_lload_n hx hb d_M_fuelOver_14 rfl (lv_at hl 2 rfl) ?_
    refine cRS (As := [.long ma]) (rest := []) K_M_size x_1035 hx hb hml hown hts hE hV hS (c_M_size l D ct st ma) (fun k q h => by simp at h) rfl hl.1 rfl (Nat.le_of_ble_eq_true rfl) d_M_fuelOver_15 (Nat.le_of_ble_eq_true rfl) (Nat.le_of_ble_eq_true rfl) ⟨Nat.zero_le _, Nat.zero_le _⟩ ?_
    refine lv_aload_n hx hb d_M_fuelOver_18 rfl (lv_at hl 1 rfl) ?_
    refine q_get 0 1 i_M rfl hx hb hts hown hE hP rfl (by decide) x_937 rfl d_M_fuelOver_19 ?_
    refine lv_bipush (v := 104) hx hb d_M_fuelOver_22 (by decide) ?_
    refine lv_iload hx hb d_M_fuelOver_24 (lv_at hl 0 rfl) ?_
    refine q_iadd (v := nI (104 + lf)) hx hb d_M_fuelOver_26 (nI_add 104 lf) ?_
    refine q_lald (k := 104 + lf) 1 hx hb hE hP rfl rfl (by omega) (by decide) d_M_fuelOver_27 ?_
    refine lv_lmul hx hb d_M_fuelOver_28 ?_
    refine lv_aload_n hx hb d_M_fuelOver_29 rfl (lv_at hl 1 rfl) ?_
    refine q_get 0 1 i_M rfl hx hb hts hown hE hP rfl (by decide) x_937 rfl d_M_fuelOver_30 ?_
    refine lv_bipush (v := 8) hx hb d_M_fuelOver_33 (by decide) ?_
    refine lv_iload hx hb d_M_fuelOver_35 (lv_at hl 0 rfl) ?_
    refine q_iadd (v := nI (8 + lf)) hx hb d_M_fuelOver_37 (nI_add 8 lf) ?_
    refine q_lald (k := 8 + lf) 1 hx hb hE hP rfl rfl (by omega) (by decide) d_M_fuelOver_38 ?_
    refine cRS (As := [.long ((w_sz ma) * (S (104 + lf))), .long (S (8 + lf))]) (rest := []) K_M_down x_1000 hx hb hml hown hts hE hV hS (c_M_down l D ct st ((w_sz ma) * (S (104 + lf))) (S (8 + lf)) (by omega)) (fun k q h => by simp at h) rfl hl.1 rfl (Nat.le_of_ble_eq_true rfl) d_M_fuelOver_39 (Nat.le_of_ble_eq_true rfl) (Nat.le_of_ble_eq_true rfl) ⟨Nat.zero_le _, Nat.zero_le _⟩ ?_
    refine lv_lstore (lv' := [(6, .long (fd ((w_sz ma) * (S (104 + lf))) (S (8 + lf)))), (5, .int (nI lf)), (0, .ref (am 0)), (1, .long ma), (3, .int (nI lf)), (4, .int (nI rg))]) hx hb d_M_fuelOver_42 hl (by decide) rfl (fun ls hl => ?_)
    refine lv_lload hx hb d_M_fuelOver_44 (lv_at hl 0 rfl) ?_
    refine lv_aload_n hx hb d_M_fuelOver_46 rfl (lv_at hl 2 rfl) ?_
    refine q_get 0 1 i_M rfl hx hb hts hown hE hP rfl (by decide) x_937 rfl d_M_fuelOver_47 ?_
    refine lv_bipush (v := 104) hx hb d_M_fuelOver_50 (by decide) ?_
    refine lv_iload hx hb d_M_fuelOver_52 (lv_at hl 1 rfl) ?_
    refine q_iadd (v := nI (104 + lf)) hx hb d_M_fuelOver_54 (nI_add 104 lf) ?_
    refine q_lald (k := 104 + lf) 1 hx hb hE hP rfl rfl (by omega) (by decide) d_M_fuelOver_55 ?_
    refine W.lcmp hx hb d_M_fuelOver_56 ?_
    refine q_cmp_le (tgt := 73) hx hb d_M_fuelOver_57 (by decide) (fun h_57 => ?_) (fun h_57 => ?_)
    · refine lv_lload hx hb d_M_fuelOver_73 (lv_at hl 0 rfl) ?_
      refine lv_lstore (lv' := [(6, .long (fd ((w_sz ma) * (S (104 + lf))) (S (8 + lf)))), (5, .int (nI lf)), (0, .ref (am 0)), (1, .long ma), (3, .int (nI lf)), (4, .int (nI rg))]) hx hb d_M_fuelOver_75 hl (by decide) rfl (fun ls hl => ?_)
      refine lv_lload_n hx hb d_M_fuelOver_77 rfl (lv_at hl 3 rfl) ?_
      refine lv_lconst (v := 0) hx hb d_M_fuelOver_78 (by decide) ?_
      refine W.lcmp hx hb d_M_fuelOver_79 ?_
      refine q_cmp_le (tgt := 88) hx hb d_M_fuelOver_80 (by decide) (fun h_80 => ?_) (fun h_80 => ?_)
      · refine lv_lload hx hb d_M_fuelOver_88 (lv_at hl 0 rfl) ?_
        refine lv_lneg hx hb d_M_fuelOver_90 ?_
        exact rR_l hx hb hr hlk d_M_fuelOver_91 (by unfold w_fu w_fu1; first | exact absurd h_80 h_3 | exact absurd h_3 h_80 | rw [if_pos h_3, if_pos h_57] | rw [if_pos h_3, if_neg h_57] | rw [if_neg h_3, if_pos h_57] | rw [if_neg h_3, if_neg h_57])
      · refine lv_lload hx hb d_M_fuelOver_83 (lv_at hl 0 rfl) ?_
        refine lv_goto (tgt := 91) hx hb d_M_fuelOver_85 (by decide) ?_
        exact rR_l hx hb hr hlk d_M_fuelOver_91 (by unfold w_fu w_fu1; first | exact absurd h_80 h_3 | exact absurd h_3 h_80 | rw [if_pos h_3, if_pos h_57] | rw [if_pos h_3, if_neg h_57] | rw [if_neg h_3, if_pos h_57] | rw [if_neg h_3, if_neg h_57])
    · refine lv_aload_n hx hb d_M_fuelOver_60 rfl (lv_at hl 2 rfl) ?_
      refine q_get 0 1 i_M rfl hx hb hts hown hE hP rfl (by decide) x_937 rfl d_M_fuelOver_61 ?_
      refine lv_bipush (v := 104) hx hb d_M_fuelOver_64 (by decide) ?_
      refine lv_iload hx hb d_M_fuelOver_66 (lv_at hl 1 rfl) ?_
      refine q_iadd (v := nI (104 + lf)) hx hb d_M_fuelOver_68 (nI_add 104 lf) ?_
      refine q_lald (k := 104 + lf) 1 hx hb hE hP rfl rfl (by omega) (by decide) d_M_fuelOver_69 ?_
      refine lv_goto (tgt := 75) hx hb d_M_fuelOver_70 (by decide) ?_
      refine lv_lstore (lv' := [(6, .long (S (104 + lf))), (5, .int (nI lf)), (0, .ref (am 0)), (1, .long ma), (3, .int (nI lf)), (4, .int (nI rg))]) hx hb d_M_fuelOver_75 hl (by decide) rfl (fun ls hl => ?_)
      refine lv_lload_n hx hb d_M_fuelOver_77 rfl (lv_at hl 3 rfl) ?_
      refine lv_lconst (v := 0) hx hb d_M_fuelOver_78 (by decide) ?_
      refine W.lcmp hx hb d_M_fuelOver_79 ?_
      refine q_cmp_le (tgt := 88) hx hb d_M_fuelOver_80 (by decide) (fun h_80 => ?_) (fun h_80 => ?_)
      · refine lv_lload hx hb d_M_fuelOver_88 (lv_at hl 0 rfl) ?_
        refine lv_lneg hx hb d_M_fuelOver_90 ?_
        exact rR_l hx hb hr hlk d_M_fuelOver_91 (by unfold w_fu w_fu1; first | exact absurd h_80 h_3 | exact absurd h_3 h_80 | rw [if_pos h_3, if_pos h_57] | rw [if_pos h_3, if_neg h_57] | rw [if_neg h_3, if_pos h_57] | rw [if_neg h_3, if_neg h_57])
      · refine lv_lload hx hb d_M_fuelOver_83 (lv_at hl 0 rfl) ?_
        refine lv_goto (tgt := 91) hx hb d_M_fuelOver_85 (by decide) ?_
        exact rR_l hx hb hr hlk d_M_fuelOver_91 (by unfold w_fu w_fu1; first | exact absurd h_80 h_3 | exact absurd h_3 h_80 | rw [if_pos h_3, if_pos h_57] | rw [if_pos h_3, if_neg h_57] | rw [if_neg h_3, if_pos h_57] | rw [if_neg h_3, if_neg h_57])
set_option maxHeartbeats 4000000 in
set_option maxRecDepth 100000 in
theorem c_M_crosses (l : Launch) (D : va_G) (ct : Nat → ClassId) (st : Nat → Nat) (am : Nat → Nat) (th : Int32) (bu : Int64) (he : Int64) (S : Nat → Int64) (G : Nat → Int64) (g : Nat) (n : Nat) (lft : Nat) (rgt : Nat) (t : Int64) (b : Nat) (hT : TS S g n lft rgt) (hb9 : b ≤ n) (sz : Nat) : Met l y_M_crosses (wsy y_M_crosses b_M_crosses 19 (some .boolean)) (rmW 6 0 0 145) (PcW D ct st [.ref (am 0), .long t, .int (nI b)] [((am 0), .inr (8, [.int th, .ref (am 1), .ref (am 2), .ref (am 3), .ref (am 4), .ref (am 5), .long bu, .long he, .ref (am 6), .ref (am 7)])), ((am 1), .inl (ct 1, 334, .inr (.inl S))), ((am 4), .inl (ct 1, 132, .inr (.inl G)))] sz) (QcW D [((am 0), .inr (8, [.int th, .ref (am 1), .ref (am 2), .ref (am 3), .ref (am 4), .ref (am 5), .long bu, .long he, .ref (am 6), .ref (am 7)])), ((am 1), .inl (ct 1, 334, .inr (.inl S))), ((am 4), .inl (ct 1, 132, .inr (.inl G)))] sz (fun v W1 => ∃ (goes1 : Nat → Int64), v = some (.int (bI (t * w_pace g (sM S) (sP S) (sE S) n lft rgt b ≤ 500000))) ∧ W1 = [((am 0), .inr (8, [.int th, .ref (am 1), .ref (am 2), .ref (am 3), .ref (am 4), .ref (am 5), .long bu, .long he, .ref (am 6), .ref (am 7)])), ((am 1), .inl (ct 1, 334, .inr (.inl S))), ((am 4), .inl (ct 1, 132, .inr (.inl goes1)))] ∧ ((t * w_pace g (sM S) (sP S) (sE S) n lft rgt b ≤ 500000 → goes1 b = w_g0 t g (sM S) (sP S) (sE S) n lft rgt b ∧ goes1 (33 + b) = w_g1 t g (sM S) (sP S) (sE S) n lft rgt b ∧ goes1 (66 + b) = w_g2 t g (sM S) (sP S) (sE S) n lft rgt b ∧ goes1 (99 + b) = w_g3 t g (sM S) (sP S) (sE S) (sF S) n lft rgt b) ∧ ∀ j, j ≠ b → j ≠ 33 + b → j ≠ 66 + b → j ≠ 99 + b → goes1 j = G j))) 0 0 (va_A [((am 0), .inr (8, [.int th, .ref (am 1), .ref (am 2), .ref (am 3), .ref (am 4), .ref (am 5), .long bu, .long he, .ref (am 6), .ref (am 7)])), ((am 1), .inl (ct 1, 334, .inr (.inl S))), ((am 4), .inl (ct 1, 132, .inr (.inl G)))] sz) := by
  refine enterW (by decide) (Nat.le_of_ble_eq_true rfl) ?_
  intro p e s m args below meth c ls A hx hb hr hml hown hts hlk hin hsz hAe hP hD hA hE hV hS hl
  have hl : lv_has ls 19 [(0, .ref (am 0)), (1, .long t), (3, .int (nI b))] := hl
  obtain ⟨hg, hS0, ⟨hn2, hn⟩, hS4, ⟨hl1, hS5⟩, ⟨hr1, hS6⟩, hpt, hht, hok⟩ := id hT
  refine lv_aload_n hx hb d_M_crosses_0 rfl (lv_at hl 0 rfl) ?_
  refine q_get 0 1 i_M rfl hx hb hts hown hE hP rfl (by decide) x_937 rfl d_M_crosses_1 ?_
  refine lv_iconst (v := 4) hx hb d_M_crosses_4 (by decide) ?_
  refine q_lald (k := 4) 1 hx hb hE hP rfl rfl (by omega) (by decide) d_M_crosses_5 ?_
  refine q_topl (v := lN n) (hS4) ?_
  refine lv_l2i (v := nI n) hx hb d_M_crosses_6 (lN_i _) ?_
  refine lv_istore (lv' := [(4, .int (nI n)), (0, .ref (am 0)), (1, .long t), (3, .int (nI b))]) hx hb d_M_crosses_7 hl (by decide) rfl (fun ls hl => ?_)
  refine lv_iload_n hx hb d_M_crosses_9 rfl (lv_at hl 3 rfl) ?_
  have join_20 : ∀ (lf : Nat) (hlf : lf = w_lf b) (H : Heap) (locs : List Loc) (ls : Array Slot), va_P D classes [((am 0), .inr (8, [.int th, .ref (am 1), .ref (am 2), .ref (am 3), .ref (am 4), .ref (am 5), .long bu, .long he, .ref (am 6), .ref (am 7)])), ((am 1), .inl (ct 1, 334, .inr (.inl S))), ((am 4), .inl (ct 1, 132, .inr (.inl G)))] H → va_D A [((am 0), .inr (8, [.int th, .ref (am 1), .ref (am 2), .ref (am 3), .ref (am 4), .ref (am 5), .long bu, .long he, .ref (am 6), .ref (am 7)])), ((am 1), .inl (ct 1, 334, .inr (.inl S))), ((am 4), .inl (ct 1, 132, .inr (.inl G)))] → va_S A s.heap H locs → lv_has ls 19 [(0, .ref (am 0)), (1, .long t), (3, .int (nI b)), (4, .int (nI n))] → W p l e (rmW 6 0 0 145) s m args below meth c H locs (0) (0) (MQ below (QcW D [((am 0), .inr (8, [.int th, .ref (am 1), .ref (am 2), .ref (am 3), .ref (am 4), .ref (am 5), .long bu, .long he, .ref (am 6), .ref (am 7)])), ((am 1), .inl (ct 1, 334, .inr (.inl S))), ((am 4), .inl (ct 1, 132, .inr (.inl G)))] sz (fun v W1 => ∃ (goes1 : Nat → Int64), v = some (.int (bI (t * w_pace g (sM S) (sP S) (sE S) n lft rgt b ≤ 500000))) ∧ W1 = [((am 0), .inr (8, [.int th, .ref (am 1), .ref (am 2), .ref (am 3), .ref (am 4), .ref (am 5), .long bu, .long he, .ref (am 6), .ref (am 7)])), ((am 1), .inl (ct 1, 334, .inr (.inl S))), ((am 4), .inl (ct 1, 132, .inr (.inl goes1)))] ∧ ((t * w_pace g (sM S) (sP S) (sE S) n lft rgt b ≤ 500000 → goes1 b = w_g0 t g (sM S) (sP S) (sE S) n lft rgt b ∧ goes1 (33 + b) = w_g1 t g (sM S) (sP S) (sE S) n lft rgt b ∧ goes1 (66 + b) = w_g2 t g (sM S) (sP S) (sE S) n lft rgt b ∧ goes1 (99 + b) = w_g3 t g (sM S) (sP S) (sE S) (sF S) n lft rgt b) ∧ ∀ j, j ≠ b → j ≠ 33 + b → j ≠ 66 + b → j ≠ 99 + b → goes1 j = G j))) args s 0 0 A) (F0 m 20 ls [.int (nI lf)]) := by
    intro lf hlf H locs ls hP hD hS hl
    have hlfn : lf < n := by rw [hlf]; unfold w_lf; split <;> omega
    refine lv_istore (lv' := [(5, .int (nI lf)), (0, .ref (am 0)), (1, .long t), (3, .int (nI b)), (4, .int (nI n))]) hx hb d_M_crosses_20 hl (by decide) rfl (fun ls hl => ?_)
    refine lv_iload_n hx hb d_M_crosses_22 rfl (lv_at hl 3 rfl) ?_
    refine lv_iload hx hb d_M_crosses_23 (lv_at hl 4 rfl) ?_
    have join_36 : ∀ (rg : Nat) (hrg : rg = w_rg n b) (H : Heap) (locs : List Loc) (ls : Array Slot), va_P D classes [((am 0), .inr (8, [.int th, .ref (am 1), .ref (am 2), .ref (am 3), .ref (am 4), .ref (am 5), .long bu, .long he, .ref (am 6), .ref (am 7)])), ((am 1), .inl (ct 1, 334, .inr (.inl S))), ((am 4), .inl (ct 1, 132, .inr (.inl G)))] H → va_D A [((am 0), .inr (8, [.int th, .ref (am 1), .ref (am 2), .ref (am 3), .ref (am 4), .ref (am 5), .long bu, .long he, .ref (am 6), .ref (am 7)])), ((am 1), .inl (ct 1, 334, .inr (.inl S))), ((am 4), .inl (ct 1, 132, .inr (.inl G)))] → va_S A s.heap H locs → lv_has ls 19 [(0, .ref (am 0)), (1, .long t), (3, .int (nI b)), (4, .int (nI n)), (5, .int (nI lf))] → W p l e (rmW 6 0 0 145) s m args below meth c H locs (0) (0) (MQ below (QcW D [((am 0), .inr (8, [.int th, .ref (am 1), .ref (am 2), .ref (am 3), .ref (am 4), .ref (am 5), .long bu, .long he, .ref (am 6), .ref (am 7)])), ((am 1), .inl (ct 1, 334, .inr (.inl S))), ((am 4), .inl (ct 1, 132, .inr (.inl G)))] sz (fun v W1 => ∃ (goes1 : Nat → Int64), v = some (.int (bI (t * w_pace g (sM S) (sP S) (sE S) n lft rgt b ≤ 500000))) ∧ W1 = [((am 0), .inr (8, [.int th, .ref (am 1), .ref (am 2), .ref (am 3), .ref (am 4), .ref (am 5), .long bu, .long he, .ref (am 6), .ref (am 7)])), ((am 1), .inl (ct 1, 334, .inr (.inl S))), ((am 4), .inl (ct 1, 132, .inr (.inl goes1)))] ∧ ((t * w_pace g (sM S) (sP S) (sE S) n lft rgt b ≤ 500000 → goes1 b = w_g0 t g (sM S) (sP S) (sE S) n lft rgt b ∧ goes1 (33 + b) = w_g1 t g (sM S) (sP S) (sE S) n lft rgt b ∧ goes1 (66 + b) = w_g2 t g (sM S) (sP S) (sE S) n lft rgt b ∧ goes1 (99 + b) = w_g3 t g (sM S) (sP S) (sE S) (sF S) n lft rgt b) ∧ ∀ j, j ≠ b → j ≠ 33 + b → j ≠ 66 + b → j ≠ 99 + b → goes1 j = G j))) args s 0 0 A) (F0 m 36 ls [.int (nI rg)]) := by
      intro rg hrg H locs ls hP hD hS hl
      have hrgn : rg < n := by rw [hrg]; unfold w_rg; split <;> omega
      have hcl := hok lf hlfn
      have hcr := hok rg hrgn
      refine lv_istore (lv' := [(6, .int (nI rg)), (0, .ref (am 0)), (1, .long t), (3, .int (nI b)), (4, .int (nI n)), (5, .int (nI lf))]) hx hb d_M_crosses_36 hl (by decide) rfl (fun ls hl => ?_)
      refine lv_iload_n hx hb d_M_crosses_38 rfl (lv_at hl 3 rfl) ?_
      have join_53 : ∀   (H : Heap) (locs : List Loc) (ls : Array Slot), va_P D classes [((am 0), .inr (8, [.int th, .ref (am 1), .ref (am 2), .ref (am 3), .ref (am 4), .ref (am 5), .long bu, .long he, .ref (am 6), .ref (am 7)])), ((am 1), .inl (ct 1, 334, .inr (.inl S))), ((am 4), .inl (ct 1, 132, .inr (.inl G)))] H → va_D A [((am 0), .inr (8, [.int th, .ref (am 1), .ref (am 2), .ref (am 3), .ref (am 4), .ref (am 5), .long bu, .long he, .ref (am 6), .ref (am 7)])), ((am 1), .inl (ct 1, 334, .inr (.inl S))), ((am 4), .inl (ct 1, 132, .inr (.inl G)))] → va_S A s.heap H locs → lv_has ls 19 [(0, .ref (am 0)), (1, .long t), (3, .int (nI b)), (4, .int (nI n)), (5, .int (nI lf)), (6, .int (nI rg))] → W p l e (rmW 6 0 0 145) s m args below meth c H locs (0) (0) (MQ below (QcW D [((am 0), .inr (8, [.int th, .ref (am 1), .ref (am 2), .ref (am 3), .ref (am 4), .ref (am 5), .long bu, .long he, .ref (am 6), .ref (am 7)])), ((am 1), .inl (ct 1, 334, .inr (.inl S))), ((am 4), .inl (ct 1, 132, .inr (.inl G)))] sz (fun v W1 => ∃ (goes1 : Nat → Int64), v = some (.int (bI (t * w_pace g (sM S) (sP S) (sE S) n lft rgt b ≤ 500000))) ∧ W1 = [((am 0), .inr (8, [.int th, .ref (am 1), .ref (am 2), .ref (am 3), .ref (am 4), .ref (am 5), .long bu, .long he, .ref (am 6), .ref (am 7)])), ((am 1), .inl (ct 1, 334, .inr (.inl S))), ((am 4), .inl (ct 1, 132, .inr (.inl goes1)))] ∧ ((t * w_pace g (sM S) (sP S) (sE S) n lft rgt b ≤ 500000 → goes1 b = w_g0 t g (sM S) (sP S) (sE S) n lft rgt b ∧ goes1 (33 + b) = w_g1 t g (sM S) (sP S) (sE S) n lft rgt b ∧ goes1 (66 + b) = w_g2 t g (sM S) (sP S) (sE S) n lft rgt b ∧ goes1 (99 + b) = w_g3 t g (sM S) (sP S) (sE S) (sF S) n lft rgt b) ∧ ∀ j, j ≠ b → j ≠ 33 + b → j ≠ 66 + b → j ≠ 99 + b → goes1 j = G j))) args s 0 0 A) (F0 m 53 ls [.int (bI (b = 0 ∨ b = n))]) := by
        intro H locs ls hP hD hS hl
        refine lv_istore (lv' := [(7, .int (bI (b = 0 ∨ b = n))), (0, .ref (am 0)), (1, .long t), (3, .int (nI b)), (4, .int (nI n)), (5, .int (nI lf)), (6, .int (nI rg))]) hx hb d_M_crosses_53 hl (by decide) rfl (fun ls hl => ?_)
        refine lv_iload hx hb d_M_crosses_55 (lv_at hl 0 rfl) ?_
        have join_85 : ∀   (H : Heap) (locs : List Loc) (ls : Array Slot), va_P D classes [((am 0), .inr (8, [.int th, .ref (am 1), .ref (am 2), .ref (am 3), .ref (am 4), .ref (am 5), .long bu, .long he, .ref (am 6), .ref (am 7)])), ((am 1), .inl (ct 1, 334, .inr (.inl S))), ((am 4), .inl (ct 1, 132, .inr (.inl G)))] H → va_D A [((am 0), .inr (8, [.int th, .ref (am 1), .ref (am 2), .ref (am 3), .ref (am 4), .ref (am 5), .long bu, .long he, .ref (am 6), .ref (am 7)])), ((am 1), .inl (ct 1, 334, .inr (.inl S))), ((am 4), .inl (ct 1, 132, .inr (.inl G)))] → va_S A s.heap H locs → lv_has ls 19 [(0, .ref (am 0)), (1, .long t), (3, .int (nI b)), (4, .int (nI n)), (5, .int (nI lf)), (6, .int (nI rg)), (7, .int (bI (b = 0 ∨ b = n)))] → W p l e (rmW 6 0 0 145) s m args below meth c H locs (0) (0) (MQ below (QcW D [((am 0), .inr (8, [.int th, .ref (am 1), .ref (am 2), .ref (am 3), .ref (am 4), .ref (am 5), .long bu, .long he, .ref (am 6), .ref (am 7)])), ((am 1), .inl (ct 1, 334, .inr (.inl S))), ((am 4), .inl (ct 1, 132, .inr (.inl G)))] sz (fun v W1 => ∃ (goes1 : Nat → Int64), v = some (.int (bI (t * w_pace g (sM S) (sP S) (sE S) n lft rgt b ≤ 500000))) ∧ W1 = [((am 0), .inr (8, [.int th, .ref (am 1), .ref (am 2), .ref (am 3), .ref (am 4), .ref (am 5), .long bu, .long he, .ref (am 6), .ref (am 7)])), ((am 1), .inl (ct 1, 334, .inr (.inl S))), ((am 4), .inl (ct 1, 132, .inr (.inl goes1)))] ∧ ((t * w_pace g (sM S) (sP S) (sE S) n lft rgt b ≤ 500000 → goes1 b = w_g0 t g (sM S) (sP S) (sE S) n lft rgt b ∧ goes1 (33 + b) = w_g1 t g (sM S) (sP S) (sE S) n lft rgt b ∧ goes1 (66 + b) = w_g2 t g (sM S) (sP S) (sE S) n lft rgt b ∧ goes1 (99 + b) = w_g3 t g (sM S) (sP S) (sE S) (sF S) n lft rgt b) ∧ ∀ j, j ≠ b → j ≠ 33 + b → j ≠ 66 + b → j ≠ 99 + b → goes1 j = G j))) args s 0 0 A) (F0 m 85 ls [.int (bI (w_wall n lft rgt b))]) := by
          intro H locs ls hP hD hS hl
          refine lv_istore (lv' := [(8, .int (bI (w_wall n lft rgt b))), (0, .ref (am 0)), (1, .long t), (3, .int (nI b)), (4, .int (nI n)), (5, .int (nI lf)), (6, .int (nI rg)), (7, .int (bI (b = 0 ∨ b = n)))]) hx hb d_M_crosses_85 hl (by decide) rfl (fun ls hl => ?_)
          refine lv_aload_n hx hb d_M_crosses_87 rfl (lv_at hl 1 rfl) ?_
          refine lv_iload hx hb d_M_crosses_88 (lv_at hl 5 rfl) ?_
          refine cRV (As := [.int (nI lf)]) (rest := []) (q9 := 0) (ci := 8) K_M_fastOf x_1027 hx hb hml hown hts hE hV hS (c_M_fastOf l D ct st am th bu he S g lf (hg) (hS0) (by omega) (hcl)) (hP.sub (ws' := [((am 0), .inr (8, [.int th, .ref (am 1), .ref (am 2), .ref (am 3), .ref (am 4), .ref (am 5), .long bu, .long he, .ref (am 6), .ref (am 7)])), ((am 1), .inl (ct 1, 334, .inr (.inl S)))]) [0, 1] rfl) rfl hP rfl rfl hl.1 rfl (Nat.le_of_ble_eq_true rfl) d_M_crosses_90 (Nat.le_of_ble_eq_true rfl) (Nat.le_of_ble_eq_true rfl) ⟨Nat.le_of_ble_eq_true rfl, Nat.le_of_ble_eq_true rfl⟩ ?_
          refine lv_lstore (lv' := [(9, .long (w_fast g (sM S) (sP S) (sE S) lf)), (8, .int (bI (w_wall n lft rgt b))), (0, .ref (am 0)), (1, .long t), (3, .int (nI b)), (4, .int (nI n)), (5, .int (nI lf)), (6, .int (nI rg)), (7, .int (bI (b = 0 ∨ b = n)))]) hx hb d_M_crosses_93 hl (by decide) rfl (fun ls hl => ?_)
          refine lv_iload hx hb d_M_crosses_95 (lv_at hl 1 rfl) ?_
          have join_146 : ∀ (oth : Int64) (hoth : oth = (if w_wall n lft rgt b then w_sz (fd ((-1000) * sP S rg) (sM S rg)) + w_so g (sM S) (sP S) (sE S) rg else w_fast g (sM S) (sP S) (sE S) rg)) (H : Heap) (locs : List Loc) (ls : Array Slot), va_P D classes [((am 0), .inr (8, [.int th, .ref (am 1), .ref (am 2), .ref (am 3), .ref (am 4), .ref (am 5), .long bu, .long he, .ref (am 6), .ref (am 7)])), ((am 1), .inl (ct 1, 334, .inr (.inl S))), ((am 4), .inl (ct 1, 132, .inr (.inl G)))] H → va_D A [((am 0), .inr (8, [.int th, .ref (am 1), .ref (am 2), .ref (am 3), .ref (am 4), .ref (am 5), .long bu, .long he, .ref (am 6), .ref (am 7)])), ((am 1), .inl (ct 1, 334, .inr (.inl S))), ((am 4), .inl (ct 1, 132, .inr (.inl G)))] → va_S A s.heap H locs → lv_has ls 19 [(0, .ref (am 0)), (1, .long t), (3, .int (nI b)), (4, .int (nI n)), (5, .int (nI lf)), (6, .int (nI rg)), (7, .int (bI (b = 0 ∨ b = n))), (8, .int (bI (w_wall n lft rgt b))), (9, .long (w_fast g (sM S) (sP S) (sE S) lf))] → W p l e (rmW 6 0 0 145) s m args below meth c H locs (0) (0) (MQ below (QcW D [((am 0), .inr (8, [.int th, .ref (am 1), .ref (am 2), .ref (am 3), .ref (am 4), .ref (am 5), .long bu, .long he, .ref (am 6), .ref (am 7)])), ((am 1), .inl (ct 1, 334, .inr (.inl S))), ((am 4), .inl (ct 1, 132, .inr (.inl G)))] sz (fun v W1 => ∃ (goes1 : Nat → Int64), v = some (.int (bI (t * w_pace g (sM S) (sP S) (sE S) n lft rgt b ≤ 500000))) ∧ W1 = [((am 0), .inr (8, [.int th, .ref (am 1), .ref (am 2), .ref (am 3), .ref (am 4), .ref (am 5), .long bu, .long he, .ref (am 6), .ref (am 7)])), ((am 1), .inl (ct 1, 334, .inr (.inl S))), ((am 4), .inl (ct 1, 132, .inr (.inl goes1)))] ∧ ((t * w_pace g (sM S) (sP S) (sE S) n lft rgt b ≤ 500000 → goes1 b = w_g0 t g (sM S) (sP S) (sE S) n lft rgt b ∧ goes1 (33 + b) = w_g1 t g (sM S) (sP S) (sE S) n lft rgt b ∧ goes1 (66 + b) = w_g2 t g (sM S) (sP S) (sE S) n lft rgt b ∧ goes1 (99 + b) = w_g3 t g (sM S) (sP S) (sE S) (sF S) n lft rgt b) ∧ ∀ j, j ≠ b → j ≠ 33 + b → j ≠ 66 + b → j ≠ 99 + b → goes1 j = G j))) args s 0 0 A) (F0 m 146 ls [.long oth]) := by
            intro oth hoth H locs ls hP hD hS hl
            refine lv_lstore (lv' := [(11, .long oth), (0, .ref (am 0)), (1, .long t), (3, .int (nI b)), (4, .int (nI n)), (5, .int (nI lf)), (6, .int (nI rg)), (7, .int (bI (b = 0 ∨ b = n))), (8, .int (bI (w_wall n lft rgt b))), (9, .long (w_fast g (sM S) (sP S) (sE S) lf))]) hx hb d_M_crosses_146 hl (by decide) rfl (fun ls hl => ?_)
            refine lv_lload hx hb d_M_crosses_148 (lv_at hl 9 rfl) ?_
            refine lv_lload hx hb d_M_crosses_150 (lv_at hl 0 rfl) ?_
            refine W.lcmp hx hb d_M_crosses_152 ?_
            have join_163 : ∀ (fa : Int64) (hfa : fa = w_pick (w_fast g (sM S) (sP S) (sE S) lf) oth) (H : Heap) (locs : List Loc) (ls : Array Slot), va_P D classes [((am 0), .inr (8, [.int th, .ref (am 1), .ref (am 2), .ref (am 3), .ref (am 4), .ref (am 5), .long bu, .long he, .ref (am 6), .ref (am 7)])), ((am 1), .inl (ct 1, 334, .inr (.inl S))), ((am 4), .inl (ct 1, 132, .inr (.inl G)))] H → va_D A [((am 0), .inr (8, [.int th, .ref (am 1), .ref (am 2), .ref (am 3), .ref (am 4), .ref (am 5), .long bu, .long he, .ref (am 6), .ref (am 7)])), ((am 1), .inl (ct 1, 334, .inr (.inl S))), ((am 4), .inl (ct 1, 132, .inr (.inl G)))] → va_S A s.heap H locs → lv_has ls 19 [(0, .ref (am 0)), (1, .long t), (3, .int (nI b)), (4, .int (nI n)), (5, .int (nI lf)), (6, .int (nI rg)), (7, .int (bI (b = 0 ∨ b = n))), (8, .int (bI (w_wall n lft rgt b))), (9, .long (w_fast g (sM S) (sP S) (sE S) lf)), (11, .long oth)] → W p l e (rmW 6 0 0 145) s m args below meth c H locs (0) (0) (MQ below (QcW D [((am 0), .inr (8, [.int th, .ref (am 1), .ref (am 2), .ref (am 3), .ref (am 4), .ref (am 5), .long bu, .long he, .ref (am 6), .ref (am 7)])), ((am 1), .inl (ct 1, 334, .inr (.inl S))), ((am 4), .inl (ct 1, 132, .inr (.inl G)))] sz (fun v W1 => ∃ (goes1 : Nat → Int64), v = some (.int (bI (t * w_pace g (sM S) (sP S) (sE S) n lft rgt b ≤ 500000))) ∧ W1 = [((am 0), .inr (8, [.int th, .ref (am 1), .ref (am 2), .ref (am 3), .ref (am 4), .ref (am 5), .long bu, .long he, .ref (am 6), .ref (am 7)])), ((am 1), .inl (ct 1, 334, .inr (.inl S))), ((am 4), .inl (ct 1, 132, .inr (.inl goes1)))] ∧ ((t * w_pace g (sM S) (sP S) (sE S) n lft rgt b ≤ 500000 → goes1 b = w_g0 t g (sM S) (sP S) (sE S) n lft rgt b ∧ goes1 (33 + b) = w_g1 t g (sM S) (sP S) (sE S) n lft rgt b ∧ goes1 (66 + b) = w_g2 t g (sM S) (sP S) (sE S) n lft rgt b ∧ goes1 (99 + b) = w_g3 t g (sM S) (sP S) (sE S) (sF S) n lft rgt b) ∧ ∀ j, j ≠ b → j ≠ 33 + b → j ≠ 66 + b → j ≠ 99 + b → goes1 j = G j))) args s 0 0 A) (F0 m 163 ls [.long fa]) := by
              intro fa hfa H locs ls hP hD hS hl
              have hpc : w_pace g (sM S) (sP S) (sE S) n lft rgt b = fa := by rw [hfa, hoth, hlf, hrg]; rfl
              refine lv_lstore (lv' := [(13, .long fa), (0, .ref (am 0)), (1, .long t), (3, .int (nI b)), (4, .int (nI n)), (5, .int (nI lf)), (6, .int (nI rg)), (7, .int (bI (b = 0 ∨ b = n))), (8, .int (bI (w_wall n lft rgt b))), (9, .long (w_fast g (sM S) (sP S) (sE S) lf)), (11, .long oth)]) hx hb d_M_crosses_163 hl (by decide) rfl (fun ls hl => ?_)
              refine lv_lload_n hx hb d_M_crosses_165 rfl (lv_at hl 2 rfl) ?_
              refine lv_lload hx hb d_M_crosses_166 (lv_at hl 0 rfl) ?_
              refine lv_lmul hx hb d_M_crosses_168 ?_
              refine lv_ldc2 (v := 500000) hx hb hown (hts _ (List.mem_cons_of_mem _ x_1059)) d_M_crosses_169 ?_
              refine W.lcmp hx hb d_M_crosses_172 ?_
              refine q_cmp_le (tgt := 178) hx hb d_M_crosses_173 (by decide) (fun h_173 => ?_) (fun h_173 => ?_)
              · refine lv_aload_n hx hb d_M_crosses_178 rfl (lv_at hl 1 rfl) ?_
                refine q_get 0 1 i_M rfl hx hb hts hown hE hP rfl (by decide) x_937 rfl d_M_crosses_179 ?_
                refine lv_bipush (v := 40) hx hb d_M_crosses_182 (by decide) ?_
                refine lv_iload hx hb d_M_crosses_184 (lv_at hl 6 rfl) ?_
                refine q_iadd (v := nI (40 + rg)) hx hb d_M_crosses_186 (nI_add 40 rg) ?_
                refine q_lald (k := 40 + rg) 1 hx hb hE hP rfl rfl (by omega) (by decide) d_M_crosses_187 ?_
                refine lv_aload_n hx hb d_M_crosses_188 rfl (lv_at hl 1 rfl) ?_
                refine q_get 0 1 i_M rfl hx hb hts hown hE hP rfl (by decide) x_937 rfl d_M_crosses_189 ?_
                refine lv_bipush (v := 40) hx hb d_M_crosses_192 (by decide) ?_
                refine lv_iload hx hb d_M_crosses_194 (lv_at hl 5 rfl) ?_
                refine q_iadd (v := nI (40 + lf)) hx hb d_M_crosses_196 (nI_add 40 lf) ?_
                refine q_lald (k := 40 + lf) 1 hx hb hE hP rfl rfl (by omega) (by decide) d_M_crosses_197 ?_
                refine lv_lsub hx hb d_M_crosses_198 ?_
                refine lv_lstore (lv' := [(15, .long ((S (40 + rg)) - (S (40 + lf)))), (13, .long fa), (0, .ref (am 0)), (1, .long t), (3, .int (nI b)), (4, .int (nI n)), (5, .int (nI lf)), (6, .int (nI rg)), (7, .int (bI (b = 0 ∨ b = n))), (8, .int (bI (w_wall n lft rgt b))), (9, .long (w_fast g (sM S) (sP S) (sE S) lf)), (11, .long oth)]) hx hb d_M_crosses_199 hl (by decide) rfl (fun ls hl => ?_)
                refine lv_iload hx hb d_M_crosses_201 (lv_at hl 9 rfl) ?_
                have join_240 : ∀ (mo : Int64) (hmo : mo = (if w_wall n lft rgt b then (if b = 0 then 2 * sP S 0 else (-2) * sP S lf) else sP S rg - sP S lf)) (H : Heap) (locs : List Loc) (ls : Array Slot), va_P D classes [((am 0), .inr (8, [.int th, .ref (am 1), .ref (am 2), .ref (am 3), .ref (am 4), .ref (am 5), .long bu, .long he, .ref (am 6), .ref (am 7)])), ((am 1), .inl (ct 1, 334, .inr (.inl S))), ((am 4), .inl (ct 1, 132, .inr (.inl G)))] H → va_D A [((am 0), .inr (8, [.int th, .ref (am 1), .ref (am 2), .ref (am 3), .ref (am 4), .ref (am 5), .long bu, .long he, .ref (am 6), .ref (am 7)])), ((am 1), .inl (ct 1, 334, .inr (.inl S))), ((am 4), .inl (ct 1, 132, .inr (.inl G)))] → va_S A s.heap H locs → lv_has ls 19 [(0, .ref (am 0)), (1, .long t), (3, .int (nI b)), (4, .int (nI n)), (5, .int (nI lf)), (6, .int (nI rg)), (7, .int (bI (b = 0 ∨ b = n))), (8, .int (bI (w_wall n lft rgt b))), (9, .long (w_fast g (sM S) (sP S) (sE S) lf)), (11, .long oth), (13, .long fa), (15, .long mo)] → W p l e (rmW 6 0 0 145) s m args below meth c H locs (0) (0) (MQ below (QcW D [((am 0), .inr (8, [.int th, .ref (am 1), .ref (am 2), .ref (am 3), .ref (am 4), .ref (am 5), .long bu, .long he, .ref (am 6), .ref (am 7)])), ((am 1), .inl (ct 1, 334, .inr (.inl S))), ((am 4), .inl (ct 1, 132, .inr (.inl G)))] sz (fun v W1 => ∃ (goes1 : Nat → Int64), v = some (.int (bI (t * w_pace g (sM S) (sP S) (sE S) n lft rgt b ≤ 500000))) ∧ W1 = [((am 0), .inr (8, [.int th, .ref (am 1), .ref (am 2), .ref (am 3), .ref (am 4), .ref (am 5), .long bu, .long he, .ref (am 6), .ref (am 7)])), ((am 1), .inl (ct 1, 334, .inr (.inl S))), ((am 4), .inl (ct 1, 132, .inr (.inl goes1)))] ∧ ((t * w_pace g (sM S) (sP S) (sE S) n lft rgt b ≤ 500000 → goes1 b = w_g0 t g (sM S) (sP S) (sE S) n lft rgt b ∧ goes1 (33 + b) = w_g1 t g (sM S) (sP S) (sE S) n lft rgt b ∧ goes1 (66 + b) = w_g2 t g (sM S) (sP S) (sE S) n lft rgt b ∧ goes1 (99 + b) = w_g3 t g (sM S) (sP S) (sE S) (sF S) n lft rgt b) ∧ ∀ j, j ≠ b → j ≠ 33 + b → j ≠ 66 + b → j ≠ 99 + b → goes1 j = G j))) args s 0 0 A) (F0 m 240 ls []) := by
                  intro mo hmo H locs ls hP hD hS hl
                  have hmo2 : w_more (sP S) n lft rgt b = mo := by rw [hmo, hlf, hrg]; rfl
                  refine lv_iload hx hb d_M_crosses_240 (lv_at hl 7 rfl) ?_
                  have join_297 : ∀ (ma : Int64) (hma : ma = (if w_wall n lft rgt b then 0 else w_over t (sP S lf + sP S rg) fa (sM S rg - sM S lf))) (H : Heap) (locs : List Loc) (ls : Array Slot), va_P D classes [((am 0), .inr (8, [.int th, .ref (am 1), .ref (am 2), .ref (am 3), .ref (am 4), .ref (am 5), .long bu, .long he, .ref (am 6), .ref (am 7)])), ((am 1), .inl (ct 1, 334, .inr (.inl S))), ((am 4), .inl (ct 1, 132, .inr (.inl G)))] H → va_D A [((am 0), .inr (8, [.int th, .ref (am 1), .ref (am 2), .ref (am 3), .ref (am 4), .ref (am 5), .long bu, .long he, .ref (am 6), .ref (am 7)])), ((am 1), .inl (ct 1, 334, .inr (.inl S))), ((am 4), .inl (ct 1, 132, .inr (.inl G)))] → va_S A s.heap H locs → lv_has ls 19 [(0, .ref (am 0)), (1, .long t), (3, .int (nI b)), (4, .int (nI n)), (5, .int (nI lf)), (6, .int (nI rg)), (7, .int (bI (b = 0 ∨ b = n))), (8, .int (bI (w_wall n lft rgt b))), (9, .long (w_fast g (sM S) (sP S) (sE S) lf)), (11, .long oth), (13, .long fa), (15, .long mo)] → W p l e (rmW 6 0 0 145) s m args below meth c H locs (0) (0) (MQ below (QcW D [((am 0), .inr (8, [.int th, .ref (am 1), .ref (am 2), .ref (am 3), .ref (am 4), .ref (am 5), .long bu, .long he, .ref (am 6), .ref (am 7)])), ((am 1), .inl (ct 1, 334, .inr (.inl S))), ((am 4), .inl (ct 1, 132, .inr (.inl G)))] sz (fun v W1 => ∃ (goes1 : Nat → Int64), v = some (.int (bI (t * w_pace g (sM S) (sP S) (sE S) n lft rgt b ≤ 500000))) ∧ W1 = [((am 0), .inr (8, [.int th, .ref (am 1), .ref (am 2), .ref (am 3), .ref (am 4), .ref (am 5), .long bu, .long he, .ref (am 6), .ref (am 7)])), ((am 1), .inl (ct 1, 334, .inr (.inl S))), ((am 4), .inl (ct 1, 132, .inr (.inl goes1)))] ∧ ((t * w_pace g (sM S) (sP S) (sE S) n lft rgt b ≤ 500000 → goes1 b = w_g0 t g (sM S) (sP S) (sE S) n lft rgt b ∧ goes1 (33 + b) = w_g1 t g (sM S) (sP S) (sE S) n lft rgt b ∧ goes1 (66 + b) = w_g2 t g (sM S) (sP S) (sE S) n lft rgt b ∧ goes1 (99 + b) = w_g3 t g (sM S) (sP S) (sE S) (sF S) n lft rgt b) ∧ ∀ j, j ≠ b → j ≠ 33 + b → j ≠ 66 + b → j ≠ 99 + b → goes1 j = G j))) args s 0 0 A) (F0 m 297 ls [.long ma]) := by
                    intro ma hma H locs ls hP hD hS hl
                    have hma2 : w_g0 t g (sM S) (sP S) (sE S) n lft rgt b = ma := by unfold w_g0; rw [hma, hpc, hlf, hrg]
                    refine lv_lstore (lv' := [(17, .long ma), (0, .ref (am 0)), (1, .long t), (3, .int (nI b)), (4, .int (nI n)), (5, .int (nI lf)), (6, .int (nI rg)), (7, .int (bI (b = 0 ∨ b = n))), (8, .int (bI (w_wall n lft rgt b))), (9, .long (w_fast g (sM S) (sP S) (sE S) lf)), (11, .long oth), (13, .long fa), (15, .long mo)]) hx hb d_M_crosses_297 hl (by decide) rfl (fun ls hl => ?_)
                    refine lv_aload_n hx hb d_M_crosses_299 rfl (lv_at hl 1 rfl) ?_
                    refine q_get 0 4 i_M rfl hx hb hts hown hE hP rfl (by decide) x_940 rfl d_M_crosses_300 ?_
                    refine lv_iload_n hx hb d_M_crosses_303 rfl (lv_at hl 3 rfl) ?_
                    refine lv_lload hx hb d_M_crosses_304 (lv_at hl 0 rfl) ?_
                    obtain ⟨goes_1, egoes_1⟩ : ∃ g9 : Nat → Int64, g9 = vp_updL G b ma := ⟨_, rfl⟩
                    refine q_last (k := b) 2 (ws1 := [((am 0), .inr (8, [.int th, .ref (am 1), .ref (am 2), .ref (am 3), .ref (am 4), .ref (am 5), .long bu, .long he, .ref (am 6), .ref (am 7)])), ((am 1), .inl (ct 1, 334, .inr (.inl S))), ((am 4), .inl (ct 1, 132, .inr (.inl goes_1)))]) egoes_1 hx hb hE hP hD hS rfl rfl (by omega) (by decide) rfl d_M_crosses_306 (fun H locs hP hD hS => ?_)
                    refine lv_aload_n hx hb d_M_crosses_307 rfl (lv_at hl 1 rfl) ?_
                    refine q_get 0 4 i_M rfl hx hb hts hown hE hP rfl (by decide) x_940 rfl d_M_crosses_308 ?_
                    refine lv_bipush (v := 33) hx hb d_M_crosses_311 (by decide) ?_
                    refine lv_iload_n hx hb d_M_crosses_313 rfl (lv_at hl 3 rfl) ?_
                    refine q_iadd (v := nI (33 + b)) hx hb d_M_crosses_314 (nI_add 33 b) ?_
                    refine lv_lload_n hx hb d_M_crosses_315 rfl (lv_at hl 2 rfl) ?_
                    refine lv_aload_n hx hb d_M_crosses_316 rfl (lv_at hl 1 rfl) ?_
                    refine lv_iload hx hb d_M_crosses_317 (lv_at hl 5 rfl) ?_
                    refine cRV (As := [.int (nI lf)]) (rest := [.long t, .int (nI (33 + b)), .ref (am 4)]) (q9 := 0) (ci := 8) K_M_momentumQ x_1065 hx hb hml hown hts hE hV hS (c_M_momentumQ l D ct st am th bu he S g lf (hg) (hS0) (by omega) (hcl.1)) (hP.sub (ws' := [((am 0), .inr (8, [.int th, .ref (am 1), .ref (am 2), .ref (am 3), .ref (am 4), .ref (am 5), .long bu, .long he, .ref (am 6), .ref (am 7)])), ((am 1), .inl (ct 1, 334, .inr (.inl S)))]) [0, 1] rfl) rfl hP rfl rfl hl.1 rfl (Nat.le_of_ble_eq_true rfl) d_M_crosses_319 (Nat.le_of_ble_eq_true rfl) (Nat.le_of_ble_eq_true rfl) ⟨Nat.le_of_ble_eq_true rfl, Nat.le_of_ble_eq_true rfl⟩ ?_
                    refine lv_aload_n hx hb d_M_crosses_322 rfl (lv_at hl 1 rfl) ?_
                    refine lv_iload hx hb d_M_crosses_323 (lv_at hl 6 rfl) ?_
                    refine cRV (As := [.int (nI rg)]) (rest := [.long (w_mq g (sM S) (sP S) (sE S) lf), .long t, .int (nI (33 + b)), .ref (am 4)]) (q9 := 0) (ci := 8) K_M_momentumQ x_1065 hx hb hml hown hts hE hV hS (c_M_momentumQ l D ct st am th bu he S g rg (hg) (hS0) (by omega) (hcr.1)) (hP.sub (ws' := [((am 0), .inr (8, [.int th, .ref (am 1), .ref (am 2), .ref (am 3), .ref (am 4), .ref (am 5), .long bu, .long he, .ref (am 6), .ref (am 7)])), ((am 1), .inl (ct 1, 334, .inr (.inl S)))]) [0, 1] rfl) rfl hP rfl rfl hl.1 rfl (Nat.le_of_ble_eq_true rfl) d_M_crosses_325 (Nat.le_of_ble_eq_true rfl) (Nat.le_of_ble_eq_true rfl) ⟨Nat.le_of_ble_eq_true rfl, Nat.le_of_ble_eq_true rfl⟩ ?_
                    refine lv_ladd hx hb d_M_crosses_328 ?_
                    refine lv_lload hx hb d_M_crosses_329 (lv_at hl 11 rfl) ?_
                    refine lv_lload hx hb d_M_crosses_331 (lv_at hl 12 rfl) ?_
                    refine cRS (As := [.long t, .long ((w_mq g (sM S) (sP S) (sE S) lf) + (w_mq g (sM S) (sP S) (sE S) rg)), .long fa, .long mo]) (rest := [.int (nI (33 + b)), .ref (am 4)]) K_M_over x_1061 hx hb hml hown hts hE hV hS (c_M_over l D ct st t ((w_mq g (sM S) (sP S) (sE S) lf) + (w_mq g (sM S) (sP S) (sE S) rg)) fa mo) (fun k q h => by simp at h) rfl hl.1 rfl (Nat.le_of_ble_eq_true rfl) d_M_crosses_333 (Nat.le_of_ble_eq_true rfl) (Nat.le_of_ble_eq_true rfl) ⟨Nat.le_of_ble_eq_true rfl, Nat.le_of_ble_eq_true rfl⟩ ?_
                    obtain ⟨goes_2, egoes_2⟩ : ∃ g9 : Nat → Int64, g9 = vp_updL goes_1 (33 + b) (w_over t ((w_mq g (sM S) (sP S) (sE S) lf) + (w_mq g (sM S) (sP S) (sE S) rg)) fa mo) := ⟨_, rfl⟩
                    refine q_last (k := 33 + b) 2 (ws1 := [((am 0), .inr (8, [.int th, .ref (am 1), .ref (am 2), .ref (am 3), .ref (am 4), .ref (am 5), .long bu, .long he, .ref (am 6), .ref (am 7)])), ((am 1), .inl (ct 1, 334, .inr (.inl S))), ((am 4), .inl (ct 1, 132, .inr (.inl goes_2)))]) egoes_2 hx hb hE hP hD hS rfl rfl (by omega) (by decide) rfl d_M_crosses_336 (fun H locs hP hD hS => ?_)
                    refine lv_aload_n hx hb d_M_crosses_337 rfl (lv_at hl 1 rfl) ?_
                    refine q_get 0 4 i_M rfl hx hb hts hown hE hP rfl (by decide) x_940 rfl d_M_crosses_338 ?_
                    refine lv_bipush (v := 66) hx hb d_M_crosses_341 (by decide) ?_
                    refine lv_iload_n hx hb d_M_crosses_343 rfl (lv_at hl 3 rfl) ?_
                    refine q_iadd (v := nI (66 + b)) hx hb d_M_crosses_344 (nI_add 66 b) ?_
                    refine lv_iload hx hb d_M_crosses_345 (lv_at hl 8 rfl) ?_
                    have join_394 : ∀ (en : Int64) (hen : en = (if w_wall n lft rgt b then 0 else w_over t (w_eq g (sM S) (sP S) (sE S) lf + w_eq g (sM S) (sP S) (sE S) rg) fa (sE S rg - sE S lf))) (H : Heap) (locs : List Loc) (ls : Array Slot), va_P D classes [((am 0), .inr (8, [.int th, .ref (am 1), .ref (am 2), .ref (am 3), .ref (am 4), .ref (am 5), .long bu, .long he, .ref (am 6), .ref (am 7)])), ((am 1), .inl (ct 1, 334, .inr (.inl S))), ((am 4), .inl (ct 1, 132, .inr (.inl goes_2)))] H → va_D A [((am 0), .inr (8, [.int th, .ref (am 1), .ref (am 2), .ref (am 3), .ref (am 4), .ref (am 5), .long bu, .long he, .ref (am 6), .ref (am 7)])), ((am 1), .inl (ct 1, 334, .inr (.inl S))), ((am 4), .inl (ct 1, 132, .inr (.inl goes_2)))] → va_S A s.heap H locs → lv_has ls 19 [(0, .ref (am 0)), (1, .long t), (3, .int (nI b)), (4, .int (nI n)), (5, .int (nI lf)), (6, .int (nI rg)), (7, .int (bI (b = 0 ∨ b = n))), (8, .int (bI (w_wall n lft rgt b))), (9, .long (w_fast g (sM S) (sP S) (sE S) lf)), (11, .long oth), (13, .long fa), (15, .long mo), (17, .long ma)] → W p l e (rmW 6 0 0 145) s m args below meth c H locs (0) (0) (MQ below (QcW D [((am 0), .inr (8, [.int th, .ref (am 1), .ref (am 2), .ref (am 3), .ref (am 4), .ref (am 5), .long bu, .long he, .ref (am 6), .ref (am 7)])), ((am 1), .inl (ct 1, 334, .inr (.inl S))), ((am 4), .inl (ct 1, 132, .inr (.inl G)))] sz (fun v W1 => ∃ (goes1 : Nat → Int64), v = some (.int (bI (t * w_pace g (sM S) (sP S) (sE S) n lft rgt b ≤ 500000))) ∧ W1 = [((am 0), .inr (8, [.int th, .ref (am 1), .ref (am 2), .ref (am 3), .ref (am 4), .ref (am 5), .long bu, .long he, .ref (am 6), .ref (am 7)])), ((am 1), .inl (ct 1, 334, .inr (.inl S))), ((am 4), .inl (ct 1, 132, .inr (.inl goes1)))] ∧ ((t * w_pace g (sM S) (sP S) (sE S) n lft rgt b ≤ 500000 → goes1 b = w_g0 t g (sM S) (sP S) (sE S) n lft rgt b ∧ goes1 (33 + b) = w_g1 t g (sM S) (sP S) (sE S) n lft rgt b ∧ goes1 (66 + b) = w_g2 t g (sM S) (sP S) (sE S) n lft rgt b ∧ goes1 (99 + b) = w_g3 t g (sM S) (sP S) (sE S) (sF S) n lft rgt b) ∧ ∀ j, j ≠ b → j ≠ 33 + b → j ≠ 66 + b → j ≠ 99 + b → goes1 j = G j))) args s 0 0 A) (F0 m 394 ls [.long en, .int (nI (66 + b)), .ref (am 4)]) := by
                      intro en hen H locs ls hP hD hS hl
                      have hen2 : w_g2 t g (sM S) (sP S) (sE S) n lft rgt b = en := by unfold w_g2; rw [hen, hpc, hlf, hrg]
                      obtain ⟨goes_3, egoes_3⟩ : ∃ g9 : Nat → Int64, g9 = vp_updL goes_2 (66 + b) en := ⟨_, rfl⟩
                      refine q_last (k := 66 + b) 2 (ws1 := [((am 0), .inr (8, [.int th, .ref (am 1), .ref (am 2), .ref (am 3), .ref (am 4), .ref (am 5), .long bu, .long he, .ref (am 6), .ref (am 7)])), ((am 1), .inl (ct 1, 334, .inr (.inl S))), ((am 4), .inl (ct 1, 132, .inr (.inl goes_3)))]) egoes_3 hx hb hE hP hD hS rfl rfl (by omega) (by decide) rfl d_M_crosses_394 (fun H locs hP hD hS => ?_)
                      refine lv_aload_n hx hb d_M_crosses_395 rfl (lv_at hl 0 rfl) ?_
                      refine q_get 0 4 i_M rfl hx hb hts hown hE hP rfl (by decide) x_940 rfl d_M_crosses_396 ?_
                      refine lv_bipush (v := 99) hx hb d_M_crosses_399 (by decide) ?_
                      refine lv_iload_n hx hb d_M_crosses_401 rfl (lv_at hl 2 rfl) ?_
                      refine q_iadd (v := nI (99 + b)) hx hb d_M_crosses_402 (nI_add 99 b) ?_
                      refine lv_aload_n hx hb d_M_crosses_403 rfl (lv_at hl 0 rfl) ?_
                      refine lv_lload hx hb d_M_crosses_404 (lv_at hl 12 rfl) ?_
                      refine lv_iload hx hb d_M_crosses_406 (lv_at hl 4 rfl) ?_
                      refine lv_iload hx hb d_M_crosses_408 (lv_at hl 5 rfl) ?_
                      refine cRV (As := [.long ma, .int (nI lf), .int (nI rg)]) (rest := [.int (nI (99 + b)), .ref (am 4)]) (q9 := 0) (ci := 8) K_M_fuelOver x_1073 hx hb hml hown hts hE hV hS (c_M_fuelOver l D ct st am th bu he S ma lf rg (by omega) (by omega) (hcl.1.1) (hcr.1.1)) (hP.sub (ws' := [((am 0), .inr (8, [.int th, .ref (am 1), .ref (am 2), .ref (am 3), .ref (am 4), .ref (am 5), .long bu, .long he, .ref (am 6), .ref (am 7)])), ((am 1), .inl (ct 1, 334, .inr (.inl S)))]) [0, 1] rfl) rfl hP rfl rfl hl.1 rfl (Nat.le_of_ble_eq_true rfl) d_M_crosses_410 (Nat.le_of_ble_eq_true rfl) (Nat.le_of_ble_eq_true rfl) ⟨Nat.le_of_ble_eq_true rfl, Nat.le_of_ble_eq_true rfl⟩ ?_
                      obtain ⟨goes_4, egoes_4⟩ : ∃ g9 : Nat → Int64, g9 = vp_updL goes_3 (99 + b) (w_fu (sM S) (sF S) ma lf rg) := ⟨_, rfl⟩
                      refine q_last (k := 99 + b) 2 (ws1 := [((am 0), .inr (8, [.int th, .ref (am 1), .ref (am 2), .ref (am 3), .ref (am 4), .ref (am 5), .long bu, .long he, .ref (am 6), .ref (am 7)])), ((am 1), .inl (ct 1, 334, .inr (.inl S))), ((am 4), .inl (ct 1, 132, .inr (.inl goes_4)))]) egoes_4 hx hb hE hP hD hS rfl rfl (by omega) (by decide) rfl d_M_crosses_413 (fun H locs hP hD hS => ?_)
                      refine lv_iconst (v := 1) hx hb d_M_crosses_414 (by decide) ?_
                      exact rW_z (P := t * w_pace g (sM S) (sP S) (sE S) n lft rgt b ≤ 500000) hx hb hr hlk hAe hS hP hD (Nat.le_of_ble_eq_true rfl) (Nat.le_of_ble_eq_true rfl) d_M_crosses_415 (bI_1 (by rw [hpc]; exact h_173)) ⟨goes_4, rfl, rfl, ⟨fun _ => ⟨by simp (disch := omega) only [egoes_1, egoes_2, egoes_3, egoes_4, pk_uLn, pk_uLs]; rw [hma2], by simp (disch := omega) only [egoes_1, egoes_2, egoes_3, egoes_4, pk_uLn, pk_uLs]; unfold w_g1; rw [hpc, hmo2, hlf, hrg], by simp (disch := omega) only [egoes_1, egoes_2, egoes_3, egoes_4, pk_uLn, pk_uLs]; rw [hen2], by simp (disch := omega) only [egoes_4, pk_uLs]; unfold w_g3; rw [hma2, hlf, hrg]⟩, fun j h1 h2 h3 h4 => by simp (disch := omega) only [egoes_1, egoes_2, egoes_3, egoes_4, pk_uLn]⟩⟩
                    refine q_ifeq_b (tgt := 354) hx hb d_M_crosses_347 (by decide) (fun h_347 => ?_) (fun h_347 => ?_)
                    · refine lv_lload_n hx hb d_M_crosses_354 rfl (lv_at hl 2 rfl) ?_
                      refine lv_aload_n hx hb d_M_crosses_355 rfl (lv_at hl 1 rfl) ?_
                      refine lv_iload hx hb d_M_crosses_356 (lv_at hl 5 rfl) ?_
                      refine cRV (As := [.int (nI lf)]) (rest := [.long t, .int (nI (66 + b)), .ref (am 4)]) (q9 := 0) (ci := 8) K_M_energyQ x_1069 hx hb hml hown hts hE hV hS (c_M_energyQ l D ct st am th bu he S g lf (hg) (hS0) (by omega) (hcl.1)) (hP.sub (ws' := [((am 0), .inr (8, [.int th, .ref (am 1), .ref (am 2), .ref (am 3), .ref (am 4), .ref (am 5), .long bu, .long he, .ref (am 6), .ref (am 7)])), ((am 1), .inl (ct 1, 334, .inr (.inl S)))]) [0, 1] rfl) rfl hP rfl rfl hl.1 rfl (Nat.le_of_ble_eq_true rfl) d_M_crosses_358 (Nat.le_of_ble_eq_true rfl) (Nat.le_of_ble_eq_true rfl) ⟨Nat.le_of_ble_eq_true rfl, Nat.le_of_ble_eq_true rfl⟩ ?_
                      refine lv_aload_n hx hb d_M_crosses_361 rfl (lv_at hl 1 rfl) ?_
                      refine lv_iload hx hb d_M_crosses_362 (lv_at hl 6 rfl) ?_
                      refine cRV (As := [.int (nI rg)]) (rest := [.long (w_eq g (sM S) (sP S) (sE S) lf), .long t, .int (nI (66 + b)), .ref (am 4)]) (q9 := 0) (ci := 8) K_M_energyQ x_1069 hx hb hml hown hts hE hV hS (c_M_energyQ l D ct st am th bu he S g rg (hg) (hS0) (by omega) (hcr.1)) (hP.sub (ws' := [((am 0), .inr (8, [.int th, .ref (am 1), .ref (am 2), .ref (am 3), .ref (am 4), .ref (am 5), .long bu, .long he, .ref (am 6), .ref (am 7)])), ((am 1), .inl (ct 1, 334, .inr (.inl S)))]) [0, 1] rfl) rfl hP rfl rfl hl.1 rfl (Nat.le_of_ble_eq_true rfl) d_M_crosses_364 (Nat.le_of_ble_eq_true rfl) (Nat.le_of_ble_eq_true rfl) ⟨Nat.le_of_ble_eq_true rfl, Nat.le_of_ble_eq_true rfl⟩ ?_
                      refine lv_ladd hx hb d_M_crosses_367 ?_
                      refine lv_lload hx hb d_M_crosses_368 (lv_at hl 11 rfl) ?_
                      refine lv_aload_n hx hb d_M_crosses_370 rfl (lv_at hl 1 rfl) ?_
                      refine q_get 0 1 i_M rfl hx hb hts hown hE hP rfl (by decide) x_937 rfl d_M_crosses_371 ?_
                      refine lv_bipush (v := 72) hx hb d_M_crosses_374 (by decide) ?_
                      refine lv_iload hx hb d_M_crosses_376 (lv_at hl 6 rfl) ?_
                      refine q_iadd (v := nI (72 + rg)) hx hb d_M_crosses_378 (nI_add 72 rg) ?_
                      refine q_lald (k := 72 + rg) 1 hx hb hE hP rfl rfl (by omega) (by decide) d_M_crosses_379 ?_
                      refine lv_aload_n hx hb d_M_crosses_380 rfl (lv_at hl 1 rfl) ?_
                      refine q_get 0 1 i_M rfl hx hb hts hown hE hP rfl (by decide) x_937 rfl d_M_crosses_381 ?_
                      refine lv_bipush (v := 72) hx hb d_M_crosses_384 (by decide) ?_
                      refine lv_iload hx hb d_M_crosses_386 (lv_at hl 5 rfl) ?_
                      refine q_iadd (v := nI (72 + lf)) hx hb d_M_crosses_388 (nI_add 72 lf) ?_
                      refine q_lald (k := 72 + lf) 1 hx hb hE hP rfl rfl (by omega) (by decide) d_M_crosses_389 ?_
                      refine lv_lsub hx hb d_M_crosses_390 ?_
                      refine cRS (As := [.long t, .long ((w_eq g (sM S) (sP S) (sE S) lf) + (w_eq g (sM S) (sP S) (sE S) rg)), .long fa, .long ((S (72 + rg)) - (S (72 + lf)))]) (rest := [.int (nI (66 + b)), .ref (am 4)]) K_M_over x_1061 hx hb hml hown hts hE hV hS (c_M_over l D ct st t ((w_eq g (sM S) (sP S) (sE S) lf) + (w_eq g (sM S) (sP S) (sE S) rg)) fa ((S (72 + rg)) - (S (72 + lf)))) (fun k q h => by simp at h) rfl hl.1 rfl (Nat.le_of_ble_eq_true rfl) d_M_crosses_391 (Nat.le_of_ble_eq_true rfl) (Nat.le_of_ble_eq_true rfl) ⟨Nat.le_of_ble_eq_true rfl, Nat.le_of_ble_eq_true rfl⟩ ?_
                      exact join_394 (w_over t ((w_eq g (sM S) (sP S) (sE S) lf) + (w_eq g (sM S) (sP S) (sE S) rg)) fa ((S (72 + rg)) - (S (72 + lf)))) (by first | exact (if_pos h_347).symm | exact (if_neg h_347).symm) _ _ _ hP hD hS (lv_sub hl [1, 2, 3, 4, 5, 6, 7, 8, 9, 10, 11, 12, 0] rfl)
                    · refine lv_lconst (v := 0) hx hb d_M_crosses_350 (by decide) ?_
                      refine lv_goto (tgt := 394) hx hb d_M_crosses_351 (by decide) ?_
                      exact join_394 0 (by first | exact (if_pos h_347).symm | exact (if_neg h_347).symm) _ _ _ hP hD hS (lv_sub hl [1, 2, 3, 4, 5, 6, 7, 8, 9, 10, 11, 12, 0] rfl)
                  refine q_ifeq_b (tgt := 249) hx hb d_M_crosses_242 (by decide) (fun h_242 => ?_) (fun h_242 => ?_)
                  · refine lv_lload_n hx hb d_M_crosses_249 rfl (lv_at hl 1 rfl) ?_
                    refine lv_aload_n hx hb d_M_crosses_250 rfl (lv_at hl 0 rfl) ?_
                    refine q_get 0 1 i_M rfl hx hb hts hown hE hP rfl (by decide) x_937 rfl d_M_crosses_251 ?_
                    refine lv_bipush (v := 40) hx hb d_M_crosses_254 (by decide) ?_
                    refine lv_iload hx hb d_M_crosses_256 (lv_at hl 4 rfl) ?_
                    refine q_iadd (v := nI (40 + lf)) hx hb d_M_crosses_258 (nI_add 40 lf) ?_
                    refine q_lald (k := 40 + lf) 1 hx hb hE hP rfl rfl (by omega) (by decide) d_M_crosses_259 ?_
                    refine lv_aload_n hx hb d_M_crosses_260 rfl (lv_at hl 0 rfl) ?_
                    refine q_get 0 1 i_M rfl hx hb hts hown hE hP rfl (by decide) x_937 rfl d_M_crosses_261 ?_
                    refine lv_bipush (v := 40) hx hb d_M_crosses_264 (by decide) ?_
                    refine lv_iload hx hb d_M_crosses_266 (lv_at hl 5 rfl) ?_
                    refine q_iadd (v := nI (40 + rg)) hx hb d_M_crosses_268 (nI_add 40 rg) ?_
                    refine q_lald (k := 40 + rg) 1 hx hb hE hP rfl rfl (by omega) (by decide) d_M_crosses_269 ?_
                    refine lv_ladd hx hb d_M_crosses_270 ?_
                    refine lv_lload hx hb d_M_crosses_271 (lv_at hl 10 rfl) ?_
                    refine lv_aload_n hx hb d_M_crosses_273 rfl (lv_at hl 0 rfl) ?_
                    refine q_get 0 1 i_M rfl hx hb hts hown hE hP rfl (by decide) x_937 rfl d_M_crosses_274 ?_
                    refine lv_bipush (v := 8) hx hb d_M_crosses_277 (by decide) ?_
                    refine lv_iload hx hb d_M_crosses_279 (lv_at hl 5 rfl) ?_
                    refine q_iadd (v := nI (8 + rg)) hx hb d_M_crosses_281 (nI_add 8 rg) ?_
                    refine q_lald (k := 8 + rg) 1 hx hb hE hP rfl rfl (by omega) (by decide) d_M_crosses_282 ?_
                    refine lv_aload_n hx hb d_M_crosses_283 rfl (lv_at hl 0 rfl) ?_
                    refine q_get 0 1 i_M rfl hx hb hts hown hE hP rfl (by decide) x_937 rfl d_M_crosses_284 ?_
                    refine lv_bipush (v := 8) hx hb d_M_crosses_287 (by decide) ?_
                    refine lv_iload hx hb d_M_crosses_289 (lv_at hl 4 rfl) ?_
                    refine q_iadd (v := nI (8 + lf)) hx hb d_M_crosses_291 (nI_add 8 lf) ?_
                    refine q_lald (k := 8 + lf) 1 hx hb hE hP rfl rfl (by omega) (by decide) d_M_crosses_292 ?_
                    refine lv_lsub hx hb d_M_crosses_293 ?_
                    refine cRS (As := [.long t, .long ((S (40 + lf)) + (S (40 + rg))), .long fa, .long ((S (8 + rg)) - (S (8 + lf)))]) (rest := []) K_M_over x_1061 hx hb hml hown hts hE hV hS (c_M_over l D ct st t ((S (40 + lf)) + (S (40 + rg))) fa ((S (8 + rg)) - (S (8 + lf)))) (fun k q h => by simp at h) rfl hl.1 rfl (Nat.le_of_ble_eq_true rfl) d_M_crosses_294 (Nat.le_of_ble_eq_true rfl) (Nat.le_of_ble_eq_true rfl) ⟨Nat.le_of_ble_eq_true rfl, Nat.le_of_ble_eq_true rfl⟩ ?_
                    exact join_297 (w_over t ((S (40 + lf)) + (S (40 + rg))) fa ((S (8 + rg)) - (S (8 + lf)))) (by first | exact (if_pos h_242).symm | exact (if_neg h_242).symm) _ _ _ hP hD hS (lv_sub hl [0, 1, 2, 3, 4, 5, 6, 7, 8, 9, 10, 11] rfl)
                  · refine lv_lconst (v := 0) hx hb d_M_crosses_245 (by decide) ?_
                    refine lv_goto (tgt := 297) hx hb d_M_crosses_246 (by decide) ?_
                    exact join_297 0 (by first | exact (if_pos h_242).symm | exact (if_neg h_242).symm) _ _ _ hP hD hS (lv_sub hl [0, 1, 2, 3, 4, 5, 6, 7, 8, 9, 10, 11] rfl)
                refine q_ifeq_b (tgt := 240) hx hb d_M_crosses_203 (by decide) (fun h_203 => ?_) (fun h_203 => ?_)
                · exact join_240 ((S (40 + rg)) - (S (40 + lf))) (by first | exact (if_neg h_203).symm | exact ((if_pos h_203).trans (if_pos h_207)).symm | exact ((if_pos h_203).trans (if_neg h_207)).symm) _ _ _ hP hD hS (lv_sub hl [2, 3, 4, 5, 6, 7, 8, 9, 10, 11, 1, 0] rfl)
                · refine lv_iload_n hx hb d_M_crosses_206 rfl (lv_at hl 4 rfl) ?_
                  refine q_if_ne_n (a := b) (tgt := 224) hx hb d_M_crosses_207 (by decide) rfl (by omega) (fun h_207 => ?_) (fun h_207 => ?_)
                  · refine lv_ldc2 (v := (-2)) hx hb hown (hts _ (List.mem_cons_of_mem _ x_1060)) d_M_crosses_224 ?_
                    refine lv_aload_n hx hb d_M_crosses_227 rfl (lv_at hl 2 rfl) ?_
                    refine q_get 0 1 i_M rfl hx hb hts hown hE hP rfl (by decide) x_937 rfl d_M_crosses_228 ?_
                    refine lv_bipush (v := 40) hx hb d_M_crosses_231 (by decide) ?_
                    refine lv_iload hx hb d_M_crosses_233 (lv_at hl 6 rfl) ?_
                    refine q_iadd (v := nI (40 + lf)) hx hb d_M_crosses_235 (nI_add 40 lf) ?_
                    refine q_lald (k := 40 + lf) 1 hx hb hE hP rfl rfl (by omega) (by decide) d_M_crosses_236 ?_
                    refine lv_lmul hx hb d_M_crosses_237 ?_
                    refine lv_lstore (lv' := [(15, .long ((-2) * (S (40 + lf)))), (13, .long fa), (0, .ref (am 0)), (1, .long t), (3, .int (nI b)), (4, .int (nI n)), (5, .int (nI lf)), (6, .int (nI rg)), (7, .int (bI (b = 0 ∨ b = n))), (8, .int (bI (w_wall n lft rgt b))), (9, .long (w_fast g (sM S) (sP S) (sE S) lf)), (11, .long oth)]) hx hb d_M_crosses_238 hl (by decide) rfl (fun ls hl => ?_)
                    exact join_240 ((-2) * (S (40 + lf))) (by first | exact (if_neg h_203).symm | exact ((if_pos h_203).trans (if_pos h_207)).symm | exact ((if_pos h_203).trans (if_neg h_207)).symm) _ _ _ hP hD hS (lv_sub hl [2, 3, 4, 5, 6, 7, 8, 9, 10, 11, 1, 0] rfl)
                  · refine lv_ldc2 (v := 2) hx hb hown (hts _ (List.mem_cons_of_mem _ x_976)) d_M_crosses_210 ?_
                    refine lv_aload_n hx hb d_M_crosses_213 rfl (lv_at hl 2 rfl) ?_
                    refine q_get 0 1 i_M rfl hx hb hts hown hE hP rfl (by decide) x_937 rfl d_M_crosses_214 ?_
                    refine lv_bipush (v := 40) hx hb d_M_crosses_217 (by decide) ?_
                    refine q_lald (k := 40) 1 hx hb hE hP rfl rfl (by omega) (by decide) d_M_crosses_219 ?_
                    refine lv_lmul hx hb d_M_crosses_220 ?_
                    refine lv_goto (tgt := 238) hx hb d_M_crosses_221 (by decide) ?_
                    refine lv_lstore (lv' := [(15, .long (2 * (S 40))), (13, .long fa), (0, .ref (am 0)), (1, .long t), (3, .int (nI b)), (4, .int (nI n)), (5, .int (nI lf)), (6, .int (nI rg)), (7, .int (bI (b = 0 ∨ b = n))), (8, .int (bI (w_wall n lft rgt b))), (9, .long (w_fast g (sM S) (sP S) (sE S) lf)), (11, .long oth)]) hx hb d_M_crosses_238 hl (by decide) rfl (fun ls hl => ?_)
                    exact join_240 (2 * (S 40)) (by first | exact (if_neg h_203).symm | exact ((if_pos h_203).trans (if_pos h_207)).symm | exact ((if_pos h_203).trans (if_neg h_207)).symm) _ _ _ hP hD hS (lv_sub hl [2, 3, 4, 5, 6, 7, 8, 9, 10, 11, 1, 0] rfl)
              · refine lv_iconst (v := 0) hx hb d_M_crosses_176 (by decide) ?_
                exact rW_z (P := t * w_pace g (sM S) (sP S) (sE S) n lft rgt b ≤ 500000) hx hb hr hlk hAe hS hP hD (Nat.le_of_ble_eq_true rfl) (Nat.le_of_ble_eq_true rfl) d_M_crosses_177 (bI_0 (by rw [hpc]; exact h_173)) ⟨G, rfl, rfl, ⟨fun z => absurd (by rw [hpc] at z; exact z) h_173, fun _ _ _ _ _ => rfl⟩⟩
            refine q_cmp_le (tgt := 161) hx hb d_M_crosses_153 (by decide) (fun h_153 => ?_) (fun h_153 => ?_)
            · refine lv_lload hx hb d_M_crosses_161 (lv_at hl 0 rfl) ?_
              exact join_163 oth (by unfold w_pick; first | exact (if_pos h_153).symm | exact (if_neg h_153).symm) _ _ _ hP hD hS (lv_sub hl [1, 2, 3, 4, 5, 6, 7, 8, 9, 0] rfl)
            · refine lv_lload hx hb d_M_crosses_156 (lv_at hl 9 rfl) ?_
              refine lv_goto (tgt := 163) hx hb d_M_crosses_158 (by decide) ?_
              exact join_163 (w_fast g (sM S) (sP S) (sE S) lf) (by unfold w_pick; first | exact (if_pos h_153).symm | exact (if_neg h_153).symm) _ _ _ hP hD hS (lv_sub hl [1, 2, 3, 4, 5, 6, 7, 8, 9, 0] rfl)
          refine q_ifeq_b (tgt := 140) hx hb d_M_crosses_97 (by decide) (fun h_97 => ?_) (fun h_97 => ?_)
          · refine lv_aload_n hx hb d_M_crosses_140 rfl (lv_at hl 2 rfl) ?_
            refine lv_iload hx hb d_M_crosses_141 (lv_at hl 7 rfl) ?_
            refine cRV (As := [.int (nI rg)]) (rest := []) (q9 := 0) (ci := 8) K_M_fastOf x_1027 hx hb hml hown hts hE hV hS (c_M_fastOf l D ct st am th bu he S g rg (hg) (hS0) (by omega) (hcr)) (hP.sub (ws' := [((am 0), .inr (8, [.int th, .ref (am 1), .ref (am 2), .ref (am 3), .ref (am 4), .ref (am 5), .long bu, .long he, .ref (am 6), .ref (am 7)])), ((am 1), .inl (ct 1, 334, .inr (.inl S)))]) [0, 1] rfl) rfl hP rfl rfl hl.1 rfl (Nat.le_of_ble_eq_true rfl) d_M_crosses_143 (Nat.le_of_ble_eq_true rfl) (Nat.le_of_ble_eq_true rfl) ⟨Nat.le_of_ble_eq_true rfl, Nat.le_of_ble_eq_true rfl⟩ ?_
            exact join_146 (w_fast g (sM S) (sP S) (sE S) rg) (by first | exact (if_pos h_97).symm | exact (if_neg h_97).symm) _ _ _ hP hD hS (lv_sub hl [2, 3, 4, 5, 6, 7, 8, 1, 0] rfl)
          · refine lv_ldc2 (v := (-1000)) hx hb hown (hts _ (List.mem_cons_of_mem _ x_1058)) d_M_crosses_100 ?_
            refine lv_aload_n hx hb d_M_crosses_103 rfl (lv_at hl 2 rfl) ?_
            refine q_get 0 1 i_M rfl hx hb hts hown hE hP rfl (by decide) x_937 rfl d_M_crosses_104 ?_
            refine lv_bipush (v := 40) hx hb d_M_crosses_107 (by decide) ?_
            refine lv_iload hx hb d_M_crosses_109 (lv_at hl 7 rfl) ?_
            refine q_iadd (v := nI (40 + rg)) hx hb d_M_crosses_111 (nI_add 40 rg) ?_
            refine q_lald (k := 40 + rg) 1 hx hb hE hP rfl rfl (by omega) (by decide) d_M_crosses_112 ?_
            refine lv_lmul hx hb d_M_crosses_113 ?_
            refine lv_aload_n hx hb d_M_crosses_114 rfl (lv_at hl 2 rfl) ?_
            refine q_get 0 1 i_M rfl hx hb hts hown hE hP rfl (by decide) x_937 rfl d_M_crosses_115 ?_
            refine lv_bipush (v := 8) hx hb d_M_crosses_118 (by decide) ?_
            refine lv_iload hx hb d_M_crosses_120 (lv_at hl 7 rfl) ?_
            refine q_iadd (v := nI (8 + rg)) hx hb d_M_crosses_122 (nI_add 8 rg) ?_
            refine q_lald (k := 8 + rg) 1 hx hb hE hP rfl rfl (by omega) (by decide) d_M_crosses_123 ?_
            refine cRS (As := [.long ((-1000) * (S (40 + rg))), .long (S (8 + rg))]) (rest := []) K_M_down x_1000 hx hb hml hown hts hE hV hS (c_M_down l D ct st ((-1000) * (S (40 + rg))) (S (8 + rg)) (by have := hcr.1.1; exact this)) (fun k q h => by simp at h) rfl hl.1 rfl (Nat.le_of_ble_eq_true rfl) d_M_crosses_124 (Nat.le_of_ble_eq_true rfl) (Nat.le_of_ble_eq_true rfl) ⟨Nat.le_of_ble_eq_true rfl, Nat.le_of_ble_eq_true rfl⟩ ?_
            refine cRS (As := [.long (fd ((-1000) * (S (40 + rg))) (S (8 + rg)))]) (rest := []) K_M_size x_1035 hx hb hml hown hts hE hV hS (c_M_size l D ct st (fd ((-1000) * (S (40 + rg))) (S (8 + rg)))) (fun k q h => by simp at h) rfl hl.1 rfl (Nat.le_of_ble_eq_true rfl) d_M_crosses_127 (Nat.le_of_ble_eq_true rfl) (Nat.le_of_ble_eq_true rfl) ⟨Nat.le_of_ble_eq_true rfl, Nat.le_of_ble_eq_true rfl⟩ ?_
            refine lv_aload_n hx hb d_M_crosses_130 rfl (lv_at hl 2 rfl) ?_
            refine lv_iload hx hb d_M_crosses_131 (lv_at hl 7 rfl) ?_
            refine cRV (As := [.int (nI rg)]) (rest := [.long (w_sz (fd ((-1000) * (S (40 + rg))) (S (8 + rg))))]) (q9 := 0) (ci := 8) K_M_soundOf x_1038 hx hb hml hown hts hE hV hS (c_M_soundOf l D ct st am th bu he S g rg (hg) (hS0) (by omega) (hcr)) (hP.sub (ws' := [((am 0), .inr (8, [.int th, .ref (am 1), .ref (am 2), .ref (am 3), .ref (am 4), .ref (am 5), .long bu, .long he, .ref (am 6), .ref (am 7)])), ((am 1), .inl (ct 1, 334, .inr (.inl S)))]) [0, 1] rfl) rfl hP rfl rfl hl.1 rfl (Nat.le_of_ble_eq_true rfl) d_M_crosses_133 (Nat.le_of_ble_eq_true rfl) (Nat.le_of_ble_eq_true rfl) ⟨Nat.le_of_ble_eq_true rfl, Nat.le_of_ble_eq_true rfl⟩ ?_
            refine lv_ladd hx hb d_M_crosses_136 ?_
            refine lv_goto (tgt := 146) hx hb d_M_crosses_137 (by decide) ?_
            exact join_146 ((w_sz (fd ((-1000) * (S (40 + rg))) (S (8 + rg)))) + (w_so g (sM S) (sP S) (sE S) rg)) (by first | exact (if_pos h_97).symm | exact (if_neg h_97).symm) _ _ _ hP hD hS (lv_sub hl [2, 3, 4, 5, 6, 7, 8, 1, 0] rfl)
        refine q_ifeq_b (tgt := 84) hx hb d_M_crosses_57 (by decide) (fun h_57 => ?_) (fun h_57 => ?_)
        · refine lv_iconst (v := 0) hx hb d_M_crosses_84 (by decide) ?_
          refine q_topi (v := bI (w_wall n lft rgt b)) (by first | exact bI_1 (by unfold w_wall; omega) | exact bI_0 (by unfold w_wall; omega)) ?_
          exact join_85 _ _ _ hP hD hS (lv_sub hl [1, 2, 3, 4, 5, 6, 0] rfl)
        · refine lv_aload_n hx hb d_M_crosses_60 rfl (lv_at hl 1 rfl) ?_
          refine q_get 0 1 i_M rfl hx hb hts hown hE hP rfl (by decide) x_937 rfl d_M_crosses_61 ?_
          refine lv_iload_n hx hb d_M_crosses_64 rfl (lv_at hl 3 rfl) ?_
          refine q_if_ne_n (a := b) (tgt := 72) hx hb d_M_crosses_65 (by decide) rfl (by omega) (fun h_65 => ?_) (fun h_65 => ?_)
          · refine lv_bipush (v := 6) hx hb d_M_crosses_72 (by decide) ?_
            refine q_lald (k := 6) 1 hx hb hE hP rfl rfl (by omega) (by decide) d_M_crosses_74 ?_
            refine q_topl (v := lN rgt) (hS6) ?_
            refine lv_lconst (v := 1) hx hb d_M_crosses_75 (by decide) ?_
            refine W.lcmp hx hb d_M_crosses_76 ?_
            refine q_cmp_ne (tgt := 84) hx hb d_M_crosses_77 (by decide) (fun h_77 => ?_) (fun h_77 => ?_)
            · first | rw [lN1 hl1] at h_77 | rw [lN1 hr1] at h_77
              refine lv_iconst (v := 0) hx hb d_M_crosses_84 (by decide) ?_
              refine q_topi (v := bI (w_wall n lft rgt b)) (by first | exact bI_1 (by unfold w_wall; omega) | exact bI_0 (by unfold w_wall; omega)) ?_
              exact join_85 _ _ _ hP hD hS (lv_sub hl [1, 2, 3, 4, 5, 6, 0] rfl)
            · first | rw [lN1 hl1] at h_77 | rw [lN1 hr1] at h_77
              refine lv_iconst (v := 1) hx hb d_M_crosses_80 (by decide) ?_
              refine lv_goto (tgt := 85) hx hb d_M_crosses_81 (by decide) ?_
              refine q_topi (v := bI (w_wall n lft rgt b)) (by first | exact bI_1 (by unfold w_wall; omega) | exact bI_0 (by unfold w_wall; omega)) ?_
              exact join_85 _ _ _ hP hD hS (lv_sub hl [1, 2, 3, 4, 5, 6, 0] rfl)
          · refine lv_iconst (v := 5) hx hb d_M_crosses_68 (by decide) ?_
            refine lv_goto (tgt := 74) hx hb d_M_crosses_69 (by decide) ?_
            refine q_lald (k := 5) 1 hx hb hE hP rfl rfl (by omega) (by decide) d_M_crosses_74 ?_
            refine q_topl (v := lN lft) (hS5) ?_
            refine lv_lconst (v := 1) hx hb d_M_crosses_75 (by decide) ?_
            refine W.lcmp hx hb d_M_crosses_76 ?_
            refine q_cmp_ne (tgt := 84) hx hb d_M_crosses_77 (by decide) (fun h_77 => ?_) (fun h_77 => ?_)
            · first | rw [lN1 hl1] at h_77 | rw [lN1 hr1] at h_77
              refine lv_iconst (v := 0) hx hb d_M_crosses_84 (by decide) ?_
              refine q_topi (v := bI (w_wall n lft rgt b)) (by first | exact bI_1 (by unfold w_wall; omega) | exact bI_0 (by unfold w_wall; omega)) ?_
              exact join_85 _ _ _ hP hD hS (lv_sub hl [1, 2, 3, 4, 5, 6, 0] rfl)
            · first | rw [lN1 hl1] at h_77 | rw [lN1 hr1] at h_77
              refine lv_iconst (v := 1) hx hb d_M_crosses_80 (by decide) ?_
              refine lv_goto (tgt := 85) hx hb d_M_crosses_81 (by decide) ?_
              refine q_topi (v := bI (w_wall n lft rgt b)) (by first | exact bI_1 (by unfold w_wall; omega) | exact bI_0 (by unfold w_wall; omega)) ?_
              exact join_85 _ _ _ hP hD hS (lv_sub hl [1, 2, 3, 4, 5, 6, 0] rfl)
      refine q_if_eq_n (a := b) (tgt := 48) hx hb d_M_crosses_39 (by decide) rfl (by omega) (fun h_39 => ?_) (fun h_39 => ?_)
      · refine lv_iconst (v := 1) hx hb d_M_crosses_48 (by decide) ?_
        refine lv_goto (tgt := 53) hx hb d_M_crosses_49 (by decide) ?_
        refine q_topi (v := bI (b = 0 ∨ b = n)) (by first | exact bI_1 (by omega) | exact bI_0 (by omega)) ?_
        exact join_53 _ _ _ hP hD hS (lv_sub hl [1, 2, 3, 4, 5, 0] rfl)
      · refine lv_iload_n hx hb d_M_crosses_42 rfl (lv_at hl 3 rfl) ?_
        refine lv_iload hx hb d_M_crosses_43 (lv_at hl 4 rfl) ?_
        refine q_icmp_ne_n (a := b) (b := n) (tgt := 52) hx hb d_M_crosses_45 (by decide) rfl rfl (by omega) (by omega) (fun h_45 => ?_) (fun h_45 => ?_)
        · refine lv_iconst (v := 0) hx hb d_M_crosses_52 (by decide) ?_
          refine q_topi (v := bI (b = 0 ∨ b = n)) (by first | exact bI_1 (by omega) | exact bI_0 (by omega)) ?_
          exact join_53 _ _ _ hP hD hS (lv_sub hl [1, 2, 3, 4, 5, 0] rfl)
        · refine lv_iconst (v := 1) hx hb d_M_crosses_48 (by decide) ?_
          refine lv_goto (tgt := 53) hx hb d_M_crosses_49 (by decide) ?_
          refine q_topi (v := bI (b = 0 ∨ b = n)) (by first | exact bI_1 (by omega) | exact bI_0 (by omega)) ?_
          exact join_53 _ _ _ hP hD hS (lv_sub hl [1, 2, 3, 4, 5, 0] rfl)
    refine q_icmp_ne_n (a := b) (b := n) (tgt := 35) hx hb d_M_crosses_25 (by decide) rfl rfl (by omega) (by omega) (fun h_25 => ?_) (fun h_25 => ?_)
    · refine lv_iload_n hx hb d_M_crosses_35 rfl (lv_at hl 3 rfl) ?_
      exact join_36 b (by unfold w_rg; first | rw [if_pos h_25] | rw [if_neg h_25]) _ _ _ hP hD hS (lv_sub hl [1, 2, 3, 4, 0] rfl)
    · refine lv_iload hx hb d_M_crosses_28 (lv_at hl 4 rfl) ?_
      refine lv_iconst (v := 1) hx hb d_M_crosses_30 (by decide) ?_
      refine q_isub (v := nI (n - 1)) hx hb d_M_crosses_31 (pk_sub (a := n) (b := 1) (by omega)) ?_
      refine lv_goto (tgt := 36) hx hb d_M_crosses_32 (by decide) ?_
      exact join_36 (n - 1) (by unfold w_rg; first | rw [if_pos h_25] | rw [if_neg h_25]) _ _ _ hP hD hS (lv_sub hl [1, 2, 3, 4, 0] rfl)
  refine q_if_ne_n (a := b) (tgt := 17) hx hb d_M_crosses_10 (by decide) rfl (by omega) (fun h_10 => ?_) (fun h_10 => ?_)
  · refine lv_iload_n hx hb d_M_crosses_17 rfl (lv_at hl 3 rfl) ?_
    refine lv_iconst (v := 1) hx hb d_M_crosses_18 (by decide) ?_
    refine q_isub (v := nI (b - 1)) hx hb d_M_crosses_19 (pk_sub (a := b) (b := 1) (by omega)) ?_
    exact join_20 (b - 1) (by unfold w_lf; first | rw [if_pos h_10] | rw [if_neg h_10]) _ _ _ hP hD hS (lv_sub hl [1, 2, 3, 0] rfl)
  · refine lv_iconst (v := 0) hx hb d_M_crosses_13 (by decide) ?_
    refine lv_goto (tgt := 20) hx hb d_M_crosses_14 (by decide) ?_
    exact join_20 0 (by unfold w_lf; first | rw [if_pos h_10] | rw [if_neg h_10]) _ _ _ hP hD hS (lv_sub hl [1, 2, 3, 0] rfl)
