/-! the class's step: what its cells hold -/
theorem lf_mx {b : Nat} (hb : b < 2 ^ 31) : mxI (nI b - 1) 0 = nI (w_lf b) := by
  unfold mxI w_lf
  rcases Nat.eq_zero_or_pos b with q | q
  · subst q; decide
  · rw [show nI b - 1 = nI (b - 1) from pk_sub (a := b) (b := 1) q, show (0 : Int32) = nI 0 from rfl, if_neg (fun z => absurd ((nI_ltI (by omega) (by decide)).mp z) (by omega)), if_neg (by omega)]
theorem rg_mn {n b : Nat} (hb : b ≤ n) (hn1 : 1 ≤ n) (hn : n ≤ 32) : mnI (nI b) (nI (n - 1)) = nI (w_rg n b) := by
  unfold mnI w_rg
  by_cases q : b = n
  · rw [if_pos ((nI_ltI (by omega) (by omega)).mpr (by omega)), if_pos q]
  · rw [if_neg (fun z => absurd ((nI_ltI (by omega) (by omega)).mp z) (by omega)), if_neg q]
theorem mxL_pick (x y : Int64) : mxL x y = w_pick x y := by
  unfold mxL w_pick
  by_cases h : y < x
  · rw [if_pos h, if_neg (fun z => absurd h (Int64.not_lt.mpr z))]
  · rw [if_neg h, if_pos (Int64.not_lt.mp h)]
theorem mxL_self (x : Int64) : mxL x x = x := by unfold mxL; split <;> rfl
theorem mnL_le (x y : Int64) : mnL x y = if x ≤ y then x else y := by
  unfold mnL
  by_cases h : y < x
  · rw [if_pos h, if_neg (fun z => absurd h (Int64.not_lt.mpr z))]
  · rw [if_neg h, if_pos (Int64.not_lt.mp h)]
theorem pick_wall {a c o : Int64} (ha : 0 ≤ a.toInt ∧ a.toInt ≤ 50000000000) (hc : 0 ≤ c.toInt ∧ c.toInt ≤ 50000000000) (ho : 0 ≤ o.toInt ∧ o.toInt ≤ 134217728) : mxL (mxL a c + o) (a + o) = w_pick (a + o) (c + o) := by
  have h1 : (a + o).toInt = a.toInt + o.toInt := fb_addL (by omega) (by omega)
  have h2 : (c + o).toInt = c.toInt + o.toInt := fb_addL (by omega) (by omega)
  rcases Int.lt_or_le c.toInt a.toInt with h | h
  · have q1 : c < a := Int64.lt_iff_toInt_lt.mpr h
    have q2 : ¬ a + o ≤ c + o := fun z => by have := Int64.le_iff_toInt_le.mp z; omega
    have q3 : mxL a c = a := if_pos q1
    have q4 : w_pick (a + o) (c + o) = a + o := if_neg q2
    rw [q3, q4, mxL_self]
  · have q1 : ¬ c < a := fun z => by have := Int64.lt_iff_toInt_lt.mp z; omega
    have q2 : a + o ≤ c + o := Int64.le_iff_toInt_le.mpr (by omega)
    have q3 : mxL a c = c := if_neg q1
    have q4 : w_pick (a + o) (c + o) = c + o := if_pos q2
    rw [q3, q4]
    unfold mxL
    split
    · rfl
    · next q5 =>
      have : ¬ (a + o).toInt < (c + o).toInt := fun z => q5 (Int64.lt_iff_toInt_lt.mpr z)
      rw [← Int64.toInt_inj]; omega
def LkA (g n : Nat) (M P E vs vo : Nat → Int64) : Prop := ∀ j, j < n → vs j = w_sp M P j ∧ vo j = w_so g M P E j
def LkC (g : Nat) (M P E vs vo k0 k1 k2 : Nat → Int64) (i : Nat) : Prop := ∀ j, j < i → vs j = w_sp M P j ∧ vo j = w_so g M P E j ∧ k0 j = P j ∧ k1 j = w_mq g M P E j ∧ k2 j = w_eq g M P E j
theorem LkC.A {g n : Nat} {M P E vs vo k0 k1 k2 : Nat → Int64} (h : LkC g M P E vs vo k0 k1 k2 n) : LkA g n M P E vs vo := fun j hj => ⟨(h j hj).1, (h j hj).2.1⟩
theorem lk_step {g i : Nat} {M P E vs vo k0 k1 k2 vs1 vo1 k01 k11 k21 : Nat → Int64} (h : LkC g M P E vs vo k0 k1 k2 i) (e0 : vs1 = vp_updL vs i (w_sp M P i)) (e1 : vo1 = vp_updL vo i (w_so g M P E i)) (e2 : k01 = vp_updL k0 i (P i)) (e3 : k11 = vp_updL k1 i (w_mq g M P E i)) (e4 : k21 = vp_updL k2 i (w_eq g M P E i)) : LkC g M P E vs1 vo1 k01 k11 k21 (i + 1) := by
  subst e0 e1 e2 e3 e4
  intro j hj
  by_cases q : j = i
  · subst q
    exact ⟨pk_uLs, pk_uLs, pk_uLs, pk_uLs, pk_uLs⟩
  · rw [pk_uLn q, pk_uLn q, pk_uLn q, pk_uLn q, pk_uLn q]
    exact h j (by omega)
section SP
variable {g n lft rgt b : Nat} {M P E F vs vo k0 k1 k2 pa : Nat → Int64}
theorem pace_o (hL : LkA g n M P E vs vo) (h1 : w_lf b < n) (h2 : w_rg n b < n) (hw : ¬ w_wall n lft rgt b) : mxL (abL (vs (w_lf b)) + vo (w_lf b)) (abL (vs (w_rg n b)) + vo (w_rg n b)) = w_pace g M P E n lft rgt b := by
  obtain ⟨a1, a2⟩ := hL _ h1
  obtain ⟨b1, b2⟩ := hL _ h2
  rw [a1, a2, b1, b2, mxL_pick, abL_sz, abL_sz]
  unfold w_pace
  rw [if_neg hw]
  rfl
theorem lf_rg (hn : 2 ≤ n) (hb : b ≤ n) (hw : w_wall n lft rgt b) : w_rg n b = w_lf b := by
  unfold w_rg w_lf
  rcases hw with ⟨h, -⟩ | ⟨h, -⟩
  · subst h; rw [if_neg (by omega), if_pos rfl]
  · subst h; rw [if_pos rfl, if_neg (by omega)]
theorem pace_w (hg : g < 3) (hn : 2 ≤ n) (hb : b ≤ n) (hL : LkA g n M P E vs vo) (hok : ∀ c, c < n → OkC M P E F c) (h1 : w_lf b < n) (hw : w_wall n lft rgt b) : mxL (mxL (abL (vs (w_lf b))) (abL (fd (1000 * (-(P (w_lf b)))) (M (w_lf b)))) + vo (w_lf b)) (abL (vs (w_rg n b)) + vo (w_rg n b)) = w_pace g M P E n lft rgt b := by
  have e := lf_rg hn hb hw
  obtain ⟨a1, a2⟩ := hL _ h1
  have ok := hok _ h1
  unfold w_pace
  rw [if_pos hw, e, a1, a2, abL_sz, abL_sz, show 1000 * (-(P (w_lf b))) = (-1000) * P (w_lf b) by grind]
  exact pick_wall (sz_rng ok.sp (by decide)) (sz_rng ok.turn (by decide)) (ok.so hg)
theorem fg_l {ma : Int64} {lf rg : Nat} (h : ¬ ma ≤ 0) : w_fu1 M F ma lf = w_fu M F ma lf rg := by
  unfold w_fu
  rw [if_neg h, show w_sz ma = ma from if_neg (fun z => h (Int64.le_of_lt z))]
theorem fg_r {ma : Int64} {lf rg : Nat} (h : ma ≤ 0) : -(w_fu1 M F (-ma) rg) = w_fu M F ma lf rg := by
  unfold w_fu
  rw [if_pos h]
  by_cases q : ma < 0
  · rw [show w_sz ma = -ma from if_pos q]
  · have : ma = 0 := by
      have h1 := Int64.le_iff_toInt_le.mp h
      have h2 := Int64.le_iff_toInt_le.mp (Int64.not_lt.mp q)
      rw [← Int64.toInt_inj]; omega
    subst this
    rfl
theorem fu_zero {lf rg : Nat} (hm : 0 < (M rg).toInt) (hf : 0 ≤ (F rg).toInt) : w_fu M F 0 lf rg = 0 := by
  have e : fd (0 * F rg) (M rg) = 0 := by
    rw [Int64.zero_mul, ← Int64.toInt_inj, fd_toInt hm]
    show (0 : Int) / _ = 0
    exact Int.zero_ediv _
  unfold w_fu w_fu1
  rw [if_pos (show (0 : Int64) ≤ 0 from Int64.le_refl _), show w_sz 0 = 0 from rfl, e, if_pos ((le0 _).mpr hf)]
  rfl
def BorQ (t : Int64) (g : Nat) (M P E F : Nat → Int64) (n lft rgt b : Nat) (o0 o1 o2 o3 o01 o11 o21 o31 : Nat → Int64) : Prop := (o01 b = w_g0 t g M P E n lft rgt b ∧ o11 b = w_g1 t g M P E n lft rgt b ∧ o21 b = w_g2 t g M P E n lft rgt b ∧ o31 b = w_g3 t g M P E F n lft rgt b) ∧ ∀ j, j ≠ b → o01 j = o0 j ∧ o11 j = o1 j ∧ o21 j = o2 j ∧ o31 j = o3 j
theorem bd_open {t : Int64} {o0 o1 o2 o3 o01 o11 o21 o31 : Nat → Int64} (hw : ¬ w_wall n lft rgt b) (hL : LkC g M P E vs vo k0 k1 k2 n) (h1 : w_lf b < n) (h2 : w_rg n b < n) (hpc : pa b = w_pace g M P E n lft rgt b) (e0 : o01 = vp_updL o0 b (w_over t (k0 (w_lf b) + k0 (w_rg n b)) (pa b) (M (w_rg n b) - M (w_lf b)))) (e1 : o11 = vp_updL o1 b (w_over t (k1 (w_lf b) + k1 (w_rg n b)) (pa b) (P (w_rg n b) - P (w_lf b)))) (e2 : o21 = vp_updL o2 b (w_over t (k2 (w_lf b) + k2 (w_rg n b)) (pa b) (E (w_rg n b) - E (w_lf b)))) (e3 : o31 = vp_updL o3 b (w_fu M F (o01 b) (w_lf b) (w_rg n b))) : BorQ t g M P E F n lft rgt b o0 o1 o2 o3 o01 o11 o21 o31 := by
  obtain ⟨-, -, a1, a2, a3⟩ := hL _ h1
  obtain ⟨-, -, b1, b2, b3⟩ := hL _ h2
  have q0 : o01 b = w_g0 t g M P E n lft rgt b := by rw [e0, pk_uLs, a1, b1, hpc]; unfold w_g0; rw [if_neg hw]
  refine ⟨⟨q0, ?_, ?_, ?_⟩, fun j hj => ?_⟩
  · rw [e1, pk_uLs, a2, b2, hpc]; unfold w_g1 w_more; rw [if_neg hw]
  · rw [e2, pk_uLs, a3, b3, hpc]; unfold w_g2; rw [if_neg hw]
  · rw [e3, pk_uLs, q0]; rfl
  · rw [e0, e1, e2, e3, pk_uLn hj, pk_uLn hj, pk_uLn hj, pk_uLn hj]; exact ⟨rfl, rfl, rfl, rfl⟩
theorem bd_wall {t : Int64} {o0 o1 o2 o3 o01 o11 o21 o31 : Nat → Int64} (hn : 2 ≤ n) (hb : b ≤ n) (hok : ∀ c, c < n → OkC M P E F c) (hw : w_wall n lft rgt b) (hL : LkC g M P E vs vo k0 k1 k2 n) (h1 : w_lf b < n) (hpc : pa b = w_pace g M P E n lft rgt b) (h : o01 = vp_updL o0 b 0 ∧ o11 = vp_updL o1 b (w_over t (2 * k1 (w_lf b)) (pa b) (if b = 0 then 2 * P (w_lf b) else -(2 * P (w_lf b)))) ∧ o21 = vp_updL o2 b 0 ∧ o31 = vp_updL o3 b 0) : BorQ t g M P E F n lft rgt b o0 o1 o2 o3 o01 o11 o21 o31 := by
  obtain ⟨e0, e1, e2, e3⟩ := h
  obtain ⟨-, -, a1, a2, a3⟩ := hL _ h1
  have e := lf_rg hn hb hw
  have ok := hok _ h1
  refine ⟨⟨?_, ?_, ?_, ?_⟩, fun j hj => ?_⟩
  · rw [e0, pk_uLs]; unfold w_g0; rw [if_pos hw]
  · rw [e1, pk_uLs, a2, hpc]; unfold w_g1 w_more
    rw [if_pos hw, e, show 2 * w_mq g M P E (w_lf b) = w_mq g M P E (w_lf b) + w_mq g M P E (w_lf b) by grind]
    by_cases q : b = 0
    · rw [if_pos q, if_pos q, show w_lf b = 0 from if_pos q]
    · rw [if_neg q, if_neg q, show -(2 * P (w_lf b)) = (-2) * P (w_lf b) by grind]
  · rw [e2, pk_uLs]; unfold w_g2; rw [if_pos hw]
  · rw [e3, pk_uLs]; unfold w_g3; rw [show w_g0 t g M P E n lft rgt b = 0 from if_pos hw, e]
    exact (fu_zero (by have := ok.1.1; omega) ok.2.2.2.2.1).symm
  · rw [e0, e1, e2, e3, pk_uLn hj, pk_uLn hj, pk_uLn hj, pk_uLn hj]; exact ⟨rfl, rfl, rfl, rfl⟩
end SP
def SLO (t : Int64) (g : Nat) (M P E : Nat → Int64) (n lft rgt i : Nat) : Prop := ∀ b, b < i → t * w_pace g M P E n lft rgt b ≤ 500000
theorem SLO.on {t : Int64} {g n lft rgt i : Nat} {M P E : Nat → Int64} (h : SLO t g M P E n lft rgt i) (h1 : ¬ 500000 < t * w_pace g M P E n lft rgt i) : SLO t g M P E n lft rgt (i + 1) := fun b hb => by
  rcases Nat.lt_succ_iff_lt_or_eq.mp hb with q | rfl
  · exact h b q
  · exact Int64.not_lt.mp h1
theorem SLO.no1 {t : Int64} {g n lft rgt i : Nat} {M P E : Nat → Int64} (h : ¬ SLO t g M P E n lft rgt i) : ¬ SLO t g M P E n lft rgt (i + 1) := fun z => h fun b hb => z b (by omega)
theorem SLO.no2 {t : Int64} {g n lft rgt i : Nat} {M P E : Nat → Int64} (h : 500000 < t * w_pace g M P E n lft rgt i) : ¬ SLO t g M P E n lft rgt (i + 1) := fun z => absurd h (Int64.not_lt.mpr (z i (by omega)))
theorem pa_step {i : Nat} {pa pa1 f : Nat → Int64} (h : ∀ j, j < i → pa j = f j) (e : pa1 = vp_updL pa i (f i)) : ∀ j, j < i + 1 → pa1 j = f j := by
  intro j hj
  rw [e]
  by_cases q : j = i
  · subst q; exact pk_uLs
  · rw [pk_uLn q]; exact h j (by omega)

set_option maxHeartbeats 4000000 in
set_option maxRecDepth 100000 in
theorem c_Step_leftOf (l : Launch) (D : va_G) (ct : Nat → ClassId) (st : Nat → Nat) (b9 : Nat) (hb9 : b9 < 2 ^ 31) : Met l y_Step_leftOf (wsy y_Step_leftOf b_Step_leftOf 1 (some .int)) (k2_rm 1 13) (PcR D ct st [.int (nI b9)] []) (k2_QcV (.int (nI (w_lf b9)))) 0 0 (fun _ => False) := by
  refine enterR (by decide) (Nat.le_of_ble_eq_true rfl) ?_
  intro p e s m args below meth c ls hx hb hr hml hown hts hlk hP hE hV hS hl
  have hl : lv_has ls 1 [(0, .int (nI b9))] := hl
  refine lv_iload_n hx hb d_Step_leftOf_0 rfl (lv_at hl 0 rfl) ?_
  refine lv_iconst (v := 1) hx hb d_Step_leftOf_1 (by decide) ?_
  refine lv_isub hx hb d_Step_leftOf_2 ?_
  refine lv_iconst (v := 0) hx hb d_Step_leftOf_3 (by decide) ?_
  refine va_mmax hx hb (by rw [hml]; exact hl.1.symm) hown (hts _ (List.mem_cons_of_mem _ x_509)) (hts _ (List.mem_cons_of_mem _ x_510)) (hts _ (List.mem_cons_of_mem _ x_13)) (hts _ (List.mem_cons_of_mem _ x_511)) (Nat.le_of_ble_eq_true rfl) (Nat.le_of_ble_eq_true rfl) (Nat.zero_le _) (Nat.zero_le _) d_Step_leftOf_4 ?_
  refine q_topi (v := (mxI ((nI b9) - 1) 0)) rfl ?_
  exact rR_i hx hb hr hlk d_Step_leftOf_7 (lf_mx hb9)
set_option maxHeartbeats 4000000 in
set_option maxRecDepth 100000 in
theorem c_Step_rightOf (l : Launch) (D : va_G) (ct : Nat → ClassId) (st : Nat → Nat) (ta : Nat → Nat) (g : Nat) (ign : Int32) (part : Int32) (heat : Int32) (n : Nat) (lft : Nat) (rgt : Nat) (ns : Nat) (mM : Nat → Int64) (mP : Nat → Int64) (mE : Nat → Int64) (mF : Nat → Int64) (td : Nat → Int64) (cm : Nat → Int64) (gr : Nat → Int64) (gs : Nat → Int32) (b9 : Nat) (hb9 : b9 ≤ n) (hn1 : 1 ≤ n) (hn : n ≤ 32) : Met l y_Step_rightOf (wsy y_Step_rightOf b_Step_rightOf 2 (some .int)) (k2_rm 1 13) (PcR D ct st [.ref (ta 0), .int (nI b9)] [((ta 0), .inr (7, [.ref (ta 1), .int (nI n), .int (nI lft), .int (nI rgt), .int (nI ns), .ref (ta 2), .ref (ta 7), .ref (ta 8), .ref (ta 9), .ref (ta 10)])), ((ta 1), .inr (1, [.int (nI g), .int ign, .int part, .int heat])), ((ta 2), .inl (ct 4, 4, .inr (.inr (.inr (.inr (rw4 (ta 3) (ta 4) (ta 5) (ta 6))))))), ((ta 3), .inl (ct 1, 32, .inr (.inl mM))), ((ta 4), .inl (ct 1, 32, .inr (.inl mP))), ((ta 5), .inl (ct 1, 32, .inr (.inl mE))), ((ta 6), .inl (ct 1, 32, .inr (.inl mF))), ((ta 7), .inl (ct 1, 4, .inr (.inl td))), ((ta 8), .inl (ct 1, 6, .inr (.inl cm))), ((ta 9), .inl (ct 1, 32, .inr (.inl gr))), ((ta 10), .inl (ct 0, 32, .inl gs))]) (k2_QcV (.int (nI (w_rg n b9)))) 0 0 (fun _ => False) := by
  refine enterR (by decide) (Nat.le_of_ble_eq_true rfl) ?_
  intro p e s m args below meth c ls hx hb hr hml hown hts hlk hP hE hV hS hl
  have hl : lv_has ls 2 [(0, .ref (ta 0)), (1, .int (nI b9))] := hl
  refine lv_iload_n hx hb d_Step_rightOf_0 rfl (lv_at hl 1 rfl) ?_
  refine lv_aload_n hx hb d_Step_rightOf_1 rfl (lv_at hl 0 rfl) ?_
  refine q_get 0 1 i_Tube rfl hx hb hts hown hE hP rfl (by decide) x_83 rfl d_Step_rightOf_2 ?_
  refine lv_iconst (v := 1) hx hb d_Step_rightOf_5 (by decide) ?_
  refine q_isub (v := nI (n - 1)) hx hb d_Step_rightOf_6 (pk_sub (a := n) (b := 1) (by omega)) ?_
  refine va_mmin hx hb (by rw [hml]; exact hl.1.symm) hown (hts _ (List.mem_cons_of_mem _ x_515)) (hts _ (List.mem_cons_of_mem _ x_376)) (hts _ (List.mem_cons_of_mem _ x_13)) (hts _ (List.mem_cons_of_mem _ x_377)) (Nat.le_of_ble_eq_true rfl) (Nat.le_of_ble_eq_true rfl) (Nat.zero_le _) (Nat.zero_le _) d_Step_rightOf_7 ?_
  refine q_topi (v := (mnI (nI b9) (nI (n - 1)))) rfl ?_
  exact rR_i hx hb hr hlk d_Step_rightOf_10 (rg_mn hb9 hn1 hn)
set_option maxHeartbeats 4000000 in
set_option maxRecDepth 100000 in
theorem c_Step_lookAtCells (l : Launch) (D : va_G) (ct : Nat → ClassId) (st : Nat → Nat) (ta : Nat → Nat) (g : Nat) (ign : Int32) (part : Int32) (heat : Int32) (n : Nat) (lft : Nat) (rgt : Nat) (ns : Nat) (mM : Nat → Int64) (mP : Nat → Int64) (mE : Nat → Int64) (mF : Nat → Int64) (td : Nat → Int64) (cm : Nat → Int64) (gr : Nat → Int64) (gs : Nat → Int32) (xa : Nat → Nat) (bq : Int64) (vs : Nat → Int64) (vo : Nat → Int64) (k0 : Nat → Int64) (k1 : Nat → Int64) (k2 : Nat → Int64) (hg : g < 3) (hn : n ≤ 32) (hok : ∀ c, c < n → OkC mM mP mE mF c) (sz : Nat) : Met l y_Step_lookAtCells (wsy y_Step_lookAtCells b_Step_lookAtCells 9 (none)) (rmW 3 0 0 71) (PcW D ct st [.ref (xa 0), .ref (ta 0)] [((ta 0), .inr (7, [.ref (ta 1), .int (nI n), .int (nI lft), .int (nI rgt), .int (nI ns), .ref (ta 2), .ref (ta 7), .ref (ta 8), .ref (ta 9), .ref (ta 10)])), ((ta 1), .inr (1, [.int (nI g), .int ign, .int part, .int heat])), ((ta 2), .inl (ct 4, 4, .inr (.inr (.inr (.inr (rw4 (ta 3) (ta 4) (ta 5) (ta 6))))))), ((ta 3), .inl (ct 1, 32, .inr (.inl mM))), ((ta 4), .inl (ct 1, 32, .inr (.inl mP))), ((ta 5), .inl (ct 1, 32, .inr (.inl mE))), ((ta 6), .inl (ct 1, 32, .inr (.inl mF))), ((ta 7), .inl (ct 1, 4, .inr (.inl td))), ((ta 8), .inl (ct 1, 6, .inr (.inl cm))), ((ta 9), .inl (ct 1, 32, .inr (.inl gr))), ((ta 10), .inl (ct 0, 32, .inl gs)), ((xa 0), .inr (5, [.ref (xa 1), .ref (xa 2), .ref (xa 3), .ref (xa 7), .ref (xa 8), .ref (xa 13), .ref (xa 18), .long bq])), ((xa 1), .inl (ct 1, 32, .inr (.inl vs))), ((xa 2), .inl (ct 1, 32, .inr (.inl vo))), ((xa 3), .inl (ct 4, 3, .inr (.inr (.inr (.inr (rw3 (xa 4) (xa 5) (xa 6))))))), ((xa 4), .inl (ct 1, 32, .inr (.inl k0))), ((xa 5), .inl (ct 1, 32, .inr (.inl k1))), ((xa 6), .inl (ct 1, 32, .inr (.inl k2)))] sz) (QcW D [((ta 0), .inr (7, [.ref (ta 1), .int (nI n), .int (nI lft), .int (nI rgt), .int (nI ns), .ref (ta 2), .ref (ta 7), .ref (ta 8), .ref (ta 9), .ref (ta 10)])), ((ta 1), .inr (1, [.int (nI g), .int ign, .int part, .int heat])), ((ta 2), .inl (ct 4, 4, .inr (.inr (.inr (.inr (rw4 (ta 3) (ta 4) (ta 5) (ta 6))))))), ((ta 3), .inl (ct 1, 32, .inr (.inl mM))), ((ta 4), .inl (ct 1, 32, .inr (.inl mP))), ((ta 5), .inl (ct 1, 32, .inr (.inl mE))), ((ta 6), .inl (ct 1, 32, .inr (.inl mF))), ((ta 7), .inl (ct 1, 4, .inr (.inl td))), ((ta 8), .inl (ct 1, 6, .inr (.inl cm))), ((ta 9), .inl (ct 1, 32, .inr (.inl gr))), ((ta 10), .inl (ct 0, 32, .inl gs)), ((xa 0), .inr (5, [.ref (xa 1), .ref (xa 2), .ref (xa 3), .ref (xa 7), .ref (xa 8), .ref (xa 13), .ref (xa 18), .long bq])), ((xa 1), .inl (ct 1, 32, .inr (.inl vs))), ((xa 2), .inl (ct 1, 32, .inr (.inl vo))), ((xa 3), .inl (ct 4, 3, .inr (.inr (.inr (.inr (rw3 (xa 4) (xa 5) (xa 6))))))), ((xa 4), .inl (ct 1, 32, .inr (.inl k0))), ((xa 5), .inl (ct 1, 32, .inr (.inl k1))), ((xa 6), .inl (ct 1, 32, .inr (.inl k2)))] sz (fun v W1 => ∃ (vs1 : Nat → Int64) (vo1 : Nat → Int64) (k01 : Nat → Int64) (k11 : Nat → Int64) (k21 : Nat → Int64), v = none ∧ W1 = [((ta 0), .inr (7, [.ref (ta 1), .int (nI n), .int (nI lft), .int (nI rgt), .int (nI ns), .ref (ta 2), .ref (ta 7), .ref (ta 8), .ref (ta 9), .ref (ta 10)])), ((ta 1), .inr (1, [.int (nI g), .int ign, .int part, .int heat])), ((ta 2), .inl (ct 4, 4, .inr (.inr (.inr (.inr (rw4 (ta 3) (ta 4) (ta 5) (ta 6))))))), ((ta 3), .inl (ct 1, 32, .inr (.inl mM))), ((ta 4), .inl (ct 1, 32, .inr (.inl mP))), ((ta 5), .inl (ct 1, 32, .inr (.inl mE))), ((ta 6), .inl (ct 1, 32, .inr (.inl mF))), ((ta 7), .inl (ct 1, 4, .inr (.inl td))), ((ta 8), .inl (ct 1, 6, .inr (.inl cm))), ((ta 9), .inl (ct 1, 32, .inr (.inl gr))), ((ta 10), .inl (ct 0, 32, .inl gs)), ((xa 0), .inr (5, [.ref (xa 1), .ref (xa 2), .ref (xa 3), .ref (xa 7), .ref (xa 8), .ref (xa 13), .ref (xa 18), .long bq])), ((xa 1), .inl (ct 1, 32, .inr (.inl vs1))), ((xa 2), .inl (ct 1, 32, .inr (.inl vo1))), ((xa 3), .inl (ct 4, 3, .inr (.inr (.inr (.inr (rw3 (xa 4) (xa 5) (xa 6))))))), ((xa 4), .inl (ct 1, 32, .inr (.inl k01))), ((xa 5), .inl (ct 1, 32, .inr (.inl k11))), ((xa 6), .inl (ct 1, 32, .inr (.inl k21)))] ∧ (LkC g mM mP mE vs1 vo1 k01 k11 k21 n))) 0 0 (va_A [((ta 0), .inr (7, [.ref (ta 1), .int (nI n), .int (nI lft), .int (nI rgt), .int (nI ns), .ref (ta 2), .ref (ta 7), .ref (ta 8), .ref (ta 9), .ref (ta 10)])), ((ta 1), .inr (1, [.int (nI g), .int ign, .int part, .int heat])), ((ta 2), .inl (ct 4, 4, .inr (.inr (.inr (.inr (rw4 (ta 3) (ta 4) (ta 5) (ta 6))))))), ((ta 3), .inl (ct 1, 32, .inr (.inl mM))), ((ta 4), .inl (ct 1, 32, .inr (.inl mP))), ((ta 5), .inl (ct 1, 32, .inr (.inl mE))), ((ta 6), .inl (ct 1, 32, .inr (.inl mF))), ((ta 7), .inl (ct 1, 4, .inr (.inl td))), ((ta 8), .inl (ct 1, 6, .inr (.inl cm))), ((ta 9), .inl (ct 1, 32, .inr (.inl gr))), ((ta 10), .inl (ct 0, 32, .inl gs)), ((xa 0), .inr (5, [.ref (xa 1), .ref (xa 2), .ref (xa 3), .ref (xa 7), .ref (xa 8), .ref (xa 13), .ref (xa 18), .long bq])), ((xa 1), .inl (ct 1, 32, .inr (.inl vs))), ((xa 2), .inl (ct 1, 32, .inr (.inl vo))), ((xa 3), .inl (ct 4, 3, .inr (.inr (.inr (.inr (rw3 (xa 4) (xa 5) (xa 6))))))), ((xa 4), .inl (ct 1, 32, .inr (.inl k0))), ((xa 5), .inl (ct 1, 32, .inr (.inl k1))), ((xa 6), .inl (ct 1, 32, .inr (.inl k2)))] sz) := by
  refine enterW (by decide) (Nat.le_of_ble_eq_true rfl) ?_
  intro p e s m args below meth c ls A hx hb hr hml hown hts hlk hin hsz hAe hP hD hA hE hV hS hl
  have hl : lv_has ls 9 [(0, .ref (xa 0)), (1, .ref (ta 0))] := hl
  refine lv_iconst (v := 0) hx hb d_Step_lookAtCells_0 (by decide) ?_
  refine lv_istore_n (lv' := [(2, .int 0), (0, .ref (xa 0)), (1, .ref (ta 0))]) hx hb d_Step_lookAtCells_1 rfl hl (by decide) rfl (fun ls hl => ?_)
  have loop_2 : ∀ (n9 : Nat) (i : Nat) (Tvs : Nat → Int64) (Tvo : Nat → Int64) (Tk0 : Nat → Int64) (Tk1 : Nat → Int64) (Tk2 : Nat → Int64) (hi : i ≤ n) (hL : LkC g mM mP mE Tvs Tvo Tk0 Tk1 Tk2 i) (hn9 : n - i < n9) (H : Heap) (locs : List Loc) (ls : Array Slot), va_P D classes [((ta 0), .inr (7, [.ref (ta 1), .int (nI n), .int (nI lft), .int (nI rgt), .int (nI ns), .ref (ta 2), .ref (ta 7), .ref (ta 8), .ref (ta 9), .ref (ta 10)])), ((ta 1), .inr (1, [.int (nI g), .int ign, .int part, .int heat])), ((ta 2), .inl (ct 4, 4, .inr (.inr (.inr (.inr (rw4 (ta 3) (ta 4) (ta 5) (ta 6))))))), ((ta 3), .inl (ct 1, 32, .inr (.inl mM))), ((ta 4), .inl (ct 1, 32, .inr (.inl mP))), ((ta 5), .inl (ct 1, 32, .inr (.inl mE))), ((ta 6), .inl (ct 1, 32, .inr (.inl mF))), ((ta 7), .inl (ct 1, 4, .inr (.inl td))), ((ta 8), .inl (ct 1, 6, .inr (.inl cm))), ((ta 9), .inl (ct 1, 32, .inr (.inl gr))), ((ta 10), .inl (ct 0, 32, .inl gs)), ((xa 0), .inr (5, [.ref (xa 1), .ref (xa 2), .ref (xa 3), .ref (xa 7), .ref (xa 8), .ref (xa 13), .ref (xa 18), .long bq])), ((xa 1), .inl (ct 1, 32, .inr (.inl Tvs))), ((xa 2), .inl (ct 1, 32, .inr (.inl Tvo))), ((xa 3), .inl (ct 4, 3, .inr (.inr (.inr (.inr (rw3 (xa 4) (xa 5) (xa 6))))))), ((xa 4), .inl (ct 1, 32, .inr (.inl Tk0))), ((xa 5), .inl (ct 1, 32, .inr (.inl Tk1))), ((xa 6), .inl (ct 1, 32, .inr (.inl Tk2)))] H → va_D A [((ta 0), .inr (7, [.ref (ta 1), .int (nI n), .int (nI lft), .int (nI rgt), .int (nI ns), .ref (ta 2), .ref (ta 7), .ref (ta 8), .ref (ta 9), .ref (ta 10)])), ((ta 1), .inr (1, [.int (nI g), .int ign, .int part, .int heat])), ((ta 2), .inl (ct 4, 4, .inr (.inr (.inr (.inr (rw4 (ta 3) (ta 4) (ta 5) (ta 6))))))), ((ta 3), .inl (ct 1, 32, .inr (.inl mM))), ((ta 4), .inl (ct 1, 32, .inr (.inl mP))), ((ta 5), .inl (ct 1, 32, .inr (.inl mE))), ((ta 6), .inl (ct 1, 32, .inr (.inl mF))), ((ta 7), .inl (ct 1, 4, .inr (.inl td))), ((ta 8), .inl (ct 1, 6, .inr (.inl cm))), ((ta 9), .inl (ct 1, 32, .inr (.inl gr))), ((ta 10), .inl (ct 0, 32, .inl gs)), ((xa 0), .inr (5, [.ref (xa 1), .ref (xa 2), .ref (xa 3), .ref (xa 7), .ref (xa 8), .ref (xa 13), .ref (xa 18), .long bq])), ((xa 1), .inl (ct 1, 32, .inr (.inl Tvs))), ((xa 2), .inl (ct 1, 32, .inr (.inl Tvo))), ((xa 3), .inl (ct 4, 3, .inr (.inr (.inr (.inr (rw3 (xa 4) (xa 5) (xa 6))))))), ((xa 4), .inl (ct 1, 32, .inr (.inl Tk0))), ((xa 5), .inl (ct 1, 32, .inr (.inl Tk1))), ((xa 6), .inl (ct 1, 32, .inr (.inl Tk2)))] → va_S A s.heap H locs → lv_has ls 9 [(0, .ref (xa 0)), (1, .ref (ta 0)), (2, .int (nI i))] → W p l e (rmW 3 0 0 71) s m args below meth c H locs (0) (0) (MQ below (QcW D [((ta 0), .inr (7, [.ref (ta 1), .int (nI n), .int (nI lft), .int (nI rgt), .int (nI ns), .ref (ta 2), .ref (ta 7), .ref (ta 8), .ref (ta 9), .ref (ta 10)])), ((ta 1), .inr (1, [.int (nI g), .int ign, .int part, .int heat])), ((ta 2), .inl (ct 4, 4, .inr (.inr (.inr (.inr (rw4 (ta 3) (ta 4) (ta 5) (ta 6))))))), ((ta 3), .inl (ct 1, 32, .inr (.inl mM))), ((ta 4), .inl (ct 1, 32, .inr (.inl mP))), ((ta 5), .inl (ct 1, 32, .inr (.inl mE))), ((ta 6), .inl (ct 1, 32, .inr (.inl mF))), ((ta 7), .inl (ct 1, 4, .inr (.inl td))), ((ta 8), .inl (ct 1, 6, .inr (.inl cm))), ((ta 9), .inl (ct 1, 32, .inr (.inl gr))), ((ta 10), .inl (ct 0, 32, .inl gs)), ((xa 0), .inr (5, [.ref (xa 1), .ref (xa 2), .ref (xa 3), .ref (xa 7), .ref (xa 8), .ref (xa 13), .ref (xa 18), .long bq])), ((xa 1), .inl (ct 1, 32, .inr (.inl vs))), ((xa 2), .inl (ct 1, 32, .inr (.inl vo))), ((xa 3), .inl (ct 4, 3, .inr (.inr (.inr (.inr (rw3 (xa 4) (xa 5) (xa 6))))))), ((xa 4), .inl (ct 1, 32, .inr (.inl k0))), ((xa 5), .inl (ct 1, 32, .inr (.inl k1))), ((xa 6), .inl (ct 1, 32, .inr (.inl k2)))] sz (fun v W1 => ∃ (vs1 : Nat → Int64) (vo1 : Nat → Int64) (k01 : Nat → Int64) (k11 : Nat → Int64) (k21 : Nat → Int64), v = none ∧ W1 = [((ta 0), .inr (7, [.ref (ta 1), .int (nI n), .int (nI lft), .int (nI rgt), .int (nI ns), .ref (ta 2), .ref (ta 7), .ref (ta 8), .ref (ta 9), .ref (ta 10)])), ((ta 1), .inr (1, [.int (nI g), .int ign, .int part, .int heat])), ((ta 2), .inl (ct 4, 4, .inr (.inr (.inr (.inr (rw4 (ta 3) (ta 4) (ta 5) (ta 6))))))), ((ta 3), .inl (ct 1, 32, .inr (.inl mM))), ((ta 4), .inl (ct 1, 32, .inr (.inl mP))), ((ta 5), .inl (ct 1, 32, .inr (.inl mE))), ((ta 6), .inl (ct 1, 32, .inr (.inl mF))), ((ta 7), .inl (ct 1, 4, .inr (.inl td))), ((ta 8), .inl (ct 1, 6, .inr (.inl cm))), ((ta 9), .inl (ct 1, 32, .inr (.inl gr))), ((ta 10), .inl (ct 0, 32, .inl gs)), ((xa 0), .inr (5, [.ref (xa 1), .ref (xa 2), .ref (xa 3), .ref (xa 7), .ref (xa 8), .ref (xa 13), .ref (xa 18), .long bq])), ((xa 1), .inl (ct 1, 32, .inr (.inl vs1))), ((xa 2), .inl (ct 1, 32, .inr (.inl vo1))), ((xa 3), .inl (ct 4, 3, .inr (.inr (.inr (.inr (rw3 (xa 4) (xa 5) (xa 6))))))), ((xa 4), .inl (ct 1, 32, .inr (.inl k01))), ((xa 5), .inl (ct 1, 32, .inr (.inl k11))), ((xa 6), .inl (ct 1, 32, .inr (.inl k21)))] ∧ (LkC g mM mP mE vs1 vo1 k01 k11 k21 n))) args s 0 0 A) (F0 m 2 ls []) := by
    intro n9
    induction n9 with
    | zero => intro i Tvs Tvo Tk0 Tk1 Tk2 hi hL hn9 H locs ls hP hD hS hl; exact absurd hn9 (Nat.not_lt_zero _)
    | succ n9 ih_2 =>
      intro i Tvs Tvo Tk0 Tk1 Tk2 hi hL hn9 H locs ls hP hD hS hl
      refine lv_iload_n hx hb d_Step_lookAtCells_2 rfl (lv_at hl 2 rfl) ?_
      refine lv_aload_n hx hb d_Step_lookAtCells_3 rfl (lv_at hl 1 rfl) ?_
      refine q_get 0 1 i_Tube rfl hx hb hts hown hE hP rfl (by decide) x_83 rfl d_Step_lookAtCells_4 ?_
      refine q_icmp_ge_n (a := i) (b := n) (tgt := 126) hx hb d_Step_lookAtCells_7 (by decide) rfl rfl (by omega) (by omega) (fun h_7 => ?_) (fun h_7 => ?_)
      · exact rW_v hx hb hr hlk hAe hS hP hD (Nat.le_of_ble_eq_true rfl) (Nat.le_of_ble_eq_true rfl) d_Step_lookAtCells_126 ⟨Tvs, Tvo, Tk0, Tk1, Tk2, rfl, rfl, by rw [show n = i by omega]; exact hL⟩
      · have hin9 : i < n := by omega
        have ok9 := hok i hin9
        have pr9 := ok9.pr hg
        refine lv_aload_n hx hb d_Step_lookAtCells_10 rfl (lv_at hl 1 rfl) ?_
        refine q_get 0 5 i_Tube rfl hx hb hts hown hE hP rfl (by decide) x_91 rfl d_Step_lookAtCells_11 ?_
        refine lv_iconst (v := 0) hx hb d_Step_lookAtCells_14 (by decide) ?_
        refine q_aald (k := 0) (r := (ta 3)) 2 hx hb hE hP rfl rfl (by decide) (by decide) rfl d_Step_lookAtCells_15 ?_
        refine lv_iload_n hx hb d_Step_lookAtCells_16 rfl (lv_at hl 2 rfl) ?_
        refine q_lald (k := i) 3 hx hb hE hP rfl rfl (by omega) (by decide) d_Step_lookAtCells_17 ?_
        refine lv_lstore_n (lv' := [(3, .long (mM i)), (0, .ref (xa 0)), (1, .ref (ta 0)), (2, .int (nI i))]) hx hb d_Step_lookAtCells_18 rfl hl (by decide) rfl (fun ls hl => ?_)
        refine lv_aload_n hx hb d_Step_lookAtCells_19 rfl (lv_at hl 2 rfl) ?_
        refine q_get 0 5 i_Tube rfl hx hb hts hown hE hP rfl (by decide) x_91 rfl d_Step_lookAtCells_20 ?_
        refine lv_iconst (v := 1) hx hb d_Step_lookAtCells_23 (by decide) ?_
        refine q_aald (k := 1) (r := (ta 4)) 2 hx hb hE hP rfl rfl (by decide) (by decide) rfl d_Step_lookAtCells_24 ?_
        refine lv_iload_n hx hb d_Step_lookAtCells_25 rfl (lv_at hl 3 rfl) ?_
        refine q_lald (k := i) 4 hx hb hE hP rfl rfl (by omega) (by decide) d_Step_lookAtCells_26 ?_
        refine lv_lstore (lv' := [(5, .long (mP i)), (3, .long (mM i)), (0, .ref (xa 0)), (1, .ref (ta 0)), (2, .int (nI i))]) hx hb d_Step_lookAtCells_27 hl (by decide) rfl (fun ls hl => ?_)
        refine lv_aload_n hx hb d_Step_lookAtCells_29 rfl (lv_at hl 3 rfl) ?_
        refine lv_iload_n hx hb d_Step_lookAtCells_30 rfl (lv_at hl 4 rfl) ?_
        refine cRV (As := [.int (nI i)]) (rest := []) (q9 := 0) (ci := 7) K_Tube_pressure x_467 hx hb hml hown hts hE hV hS (c_Tube_pressure l D ct st ta g ign part heat n lft rgt ns mM mP mE mF td cm gr gs i (hg) (by omega) (ok9.1)) (hP.sub (ws' := [((ta 0), .inr (7, [.ref (ta 1), .int (nI n), .int (nI lft), .int (nI rgt), .int (nI ns), .ref (ta 2), .ref (ta 7), .ref (ta 8), .ref (ta 9), .ref (ta 10)])), ((ta 1), .inr (1, [.int (nI g), .int ign, .int part, .int heat])), ((ta 2), .inl (ct 4, 4, .inr (.inr (.inr (.inr (rw4 (ta 3) (ta 4) (ta 5) (ta 6))))))), ((ta 3), .inl (ct 1, 32, .inr (.inl mM))), ((ta 4), .inl (ct 1, 32, .inr (.inl mP))), ((ta 5), .inl (ct 1, 32, .inr (.inl mE))), ((ta 6), .inl (ct 1, 32, .inr (.inl mF))), ((ta 7), .inl (ct 1, 4, .inr (.inl td))), ((ta 8), .inl (ct 1, 6, .inr (.inl cm))), ((ta 9), .inl (ct 1, 32, .inr (.inl gr))), ((ta 10), .inl (ct 0, 32, .inl gs))]) [0, 1, 2, 3, 4, 5, 6, 7, 8, 9, 10] rfl) rfl hP rfl rfl hl.1 rfl (Nat.le_of_ble_eq_true rfl) d_Step_lookAtCells_31 (Nat.le_of_ble_eq_true rfl) (Nat.le_of_ble_eq_true rfl) ⟨Nat.le_of_ble_eq_true rfl, Nat.le_of_ble_eq_true rfl⟩ ?_
        refine lv_lstore (lv' := [(7, .long (w_pr g mM mP mE i)), (5, .long (mP i)), (3, .long (mM i)), (0, .ref (xa 0)), (1, .ref (ta 0)), (2, .int (nI i))]) hx hb d_Step_lookAtCells_34 hl (by decide) rfl (fun ls hl => ?_)
        refine lv_aload_n hx hb d_Step_lookAtCells_36 rfl (lv_at hl 3 rfl) ?_
        refine q_get 11 0 i_Step rfl hx hb hts hown hE hP rfl (by decide) x_244 rfl d_Step_lookAtCells_37 ?_
        refine lv_iload_n hx hb d_Step_lookAtCells_40 rfl (lv_at hl 5 rfl) ?_
        refine lv_lload_n hx hb d_Step_lookAtCells_41 rfl (lv_at hl 2 rfl) ?_
        refine lv_lload hx hb d_Step_lookAtCells_42 (lv_at hl 1 rfl) ?_
        refine cRS (As := [.long (mM i), .long (mP i)]) (rest := [.int (nI i), .ref (xa 1)]) K_Laws_speed x_480 hx hb hml hown hts hE hV hS (c_Laws_speed l D ct st (mM i) (mP i) (ok9.1.1)) (fun k q h => by simp at h) rfl hl.1 rfl (Nat.le_of_ble_eq_true rfl) d_Step_lookAtCells_44 (Nat.le_of_ble_eq_true rfl) (Nat.le_of_ble_eq_true rfl) ⟨Nat.le_of_ble_eq_true rfl, Nat.le_of_ble_eq_true rfl⟩ ?_
        obtain ⟨vs_1, evs_1⟩ : ∃ g9 : Nat → Int64, g9 = vp_updL Tvs i (fd (1000 * (mP i)) (mM i)) := ⟨_, rfl⟩
        refine q_last (k := i) 12 (ws1 := [((ta 0), .inr (7, [.ref (ta 1), .int (nI n), .int (nI lft), .int (nI rgt), .int (nI ns), .ref (ta 2), .ref (ta 7), .ref (ta 8), .ref (ta 9), .ref (ta 10)])), ((ta 1), .inr (1, [.int (nI g), .int ign, .int part, .int heat])), ((ta 2), .inl (ct 4, 4, .inr (.inr (.inr (.inr (rw4 (ta 3) (ta 4) (ta 5) (ta 6))))))), ((ta 3), .inl (ct 1, 32, .inr (.inl mM))), ((ta 4), .inl (ct 1, 32, .inr (.inl mP))), ((ta 5), .inl (ct 1, 32, .inr (.inl mE))), ((ta 6), .inl (ct 1, 32, .inr (.inl mF))), ((ta 7), .inl (ct 1, 4, .inr (.inl td))), ((ta 8), .inl (ct 1, 6, .inr (.inl cm))), ((ta 9), .inl (ct 1, 32, .inr (.inl gr))), ((ta 10), .inl (ct 0, 32, .inl gs)), ((xa 0), .inr (5, [.ref (xa 1), .ref (xa 2), .ref (xa 3), .ref (xa 7), .ref (xa 8), .ref (xa 13), .ref (xa 18), .long bq])), ((xa 1), .inl (ct 1, 32, .inr (.inl vs_1))), ((xa 2), .inl (ct 1, 32, .inr (.inl Tvo))), ((xa 3), .inl (ct 4, 3, .inr (.inr (.inr (.inr (rw3 (xa 4) (xa 5) (xa 6))))))), ((xa 4), .inl (ct 1, 32, .inr (.inl Tk0))), ((xa 5), .inl (ct 1, 32, .inr (.inl Tk1))), ((xa 6), .inl (ct 1, 32, .inr (.inl Tk2)))]) evs_1 hx hb hE hP hD hS rfl rfl (by omega) (by decide) rfl d_Step_lookAtCells_47 (fun H locs hP hD hS => ?_)
        refine lv_aload_n hx hb d_Step_lookAtCells_48 rfl (lv_at hl 3 rfl) ?_
        refine q_get 11 1 i_Step rfl hx hb hts hown hE hP rfl (by decide) x_245 rfl d_Step_lookAtCells_49 ?_
        refine lv_iload_n hx hb d_Step_lookAtCells_52 rfl (lv_at hl 5 rfl) ?_
        refine lv_aload_n hx hb d_Step_lookAtCells_53 rfl (lv_at hl 4 rfl) ?_
        refine q_get 0 0 i_Tube rfl hx hb hts hown hE hP rfl (by decide) x_80 rfl d_Step_lookAtCells_54 ?_
        refine lv_lload_n hx hb d_Step_lookAtCells_57 rfl (lv_at hl 2 rfl) ?_
        refine lv_lload hx hb d_Step_lookAtCells_58 (lv_at hl 0 rfl) ?_
        refine cRV (As := [.long (mM i), .long (w_pr g mM mP mE i)]) (rest := [.int (nI i), .ref (xa 2)]) (q9 := 1) (ci := 1) K_Laws_sound x_484 hx hb hml hown hts hE hV hS (c_Laws_sound l D ct st (ta 1) g ign part heat (mM i) (w_pr g mM mP mE i) (hg) (ok9.1.1) (pr9)) (hP.sub (ws' := [((ta 1), .inr (1, [.int (nI g), .int ign, .int part, .int heat]))]) [1] rfl) rfl hP rfl rfl hl.1 rfl (Nat.le_of_ble_eq_true rfl) d_Step_lookAtCells_60 (Nat.le_of_ble_eq_true rfl) (Nat.le_of_ble_eq_true rfl) ⟨Nat.le_of_ble_eq_true rfl, Nat.le_of_ble_eq_true rfl⟩ ?_
        obtain ⟨vo_1, evo_1⟩ : ∃ g9 : Nat → Int64, g9 = vp_updL Tvo i (w_sound g (mM i) (w_pr g mM mP mE i)) := ⟨_, rfl⟩
        refine q_last (k := i) 13 (ws1 := [((ta 0), .inr (7, [.ref (ta 1), .int (nI n), .int (nI lft), .int (nI rgt), .int (nI ns), .ref (ta 2), .ref (ta 7), .ref (ta 8), .ref (ta 9), .ref (ta 10)])), ((ta 1), .inr (1, [.int (nI g), .int ign, .int part, .int heat])), ((ta 2), .inl (ct 4, 4, .inr (.inr (.inr (.inr (rw4 (ta 3) (ta 4) (ta 5) (ta 6))))))), ((ta 3), .inl (ct 1, 32, .inr (.inl mM))), ((ta 4), .inl (ct 1, 32, .inr (.inl mP))), ((ta 5), .inl (ct 1, 32, .inr (.inl mE))), ((ta 6), .inl (ct 1, 32, .inr (.inl mF))), ((ta 7), .inl (ct 1, 4, .inr (.inl td))), ((ta 8), .inl (ct 1, 6, .inr (.inl cm))), ((ta 9), .inl (ct 1, 32, .inr (.inl gr))), ((ta 10), .inl (ct 0, 32, .inl gs)), ((xa 0), .inr (5, [.ref (xa 1), .ref (xa 2), .ref (xa 3), .ref (xa 7), .ref (xa 8), .ref (xa 13), .ref (xa 18), .long bq])), ((xa 1), .inl (ct 1, 32, .inr (.inl vs_1))), ((xa 2), .inl (ct 1, 32, .inr (.inl vo_1))), ((xa 3), .inl (ct 4, 3, .inr (.inr (.inr (.inr (rw3 (xa 4) (xa 5) (xa 6))))))), ((xa 4), .inl (ct 1, 32, .inr (.inl Tk0))), ((xa 5), .inl (ct 1, 32, .inr (.inl Tk1))), ((xa 6), .inl (ct 1, 32, .inr (.inl Tk2)))]) evo_1 hx hb hE hP hD hS rfl rfl (by omega) (by decide) rfl d_Step_lookAtCells_63 (fun H locs hP hD hS => ?_)
        refine lv_aload_n hx hb d_Step_lookAtCells_64 rfl (lv_at hl 3 rfl) ?_
        refine q_get 11 2 i_Step rfl hx hb hts hown hE hP rfl (by decide) x_246 rfl d_Step_lookAtCells_65 ?_
        refine lv_iconst (v := 0) hx hb d_Step_lookAtCells_68 (by decide) ?_
        refine q_aald (k := 0) (r := (xa 4)) 14 hx hb hE hP rfl rfl (by decide) (by decide) rfl d_Step_lookAtCells_69 ?_
        refine lv_iload_n hx hb d_Step_lookAtCells_70 rfl (lv_at hl 5 rfl) ?_
        refine lv_lload hx hb d_Step_lookAtCells_71 (lv_at hl 1 rfl) ?_
        obtain ⟨k0_1, ek0_1⟩ : ∃ g9 : Nat → Int64, g9 = vp_updL Tk0 i (mP i) := ⟨_, rfl⟩
        refine q_last (k := i) 15 (ws1 := [((ta 0), .inr (7, [.ref (ta 1), .int (nI n), .int (nI lft), .int (nI rgt), .int (nI ns), .ref (ta 2), .ref (ta 7), .ref (ta 8), .ref (ta 9), .ref (ta 10)])), ((ta 1), .inr (1, [.int (nI g), .int ign, .int part, .int heat])), ((ta 2), .inl (ct 4, 4, .inr (.inr (.inr (.inr (rw4 (ta 3) (ta 4) (ta 5) (ta 6))))))), ((ta 3), .inl (ct 1, 32, .inr (.inl mM))), ((ta 4), .inl (ct 1, 32, .inr (.inl mP))), ((ta 5), .inl (ct 1, 32, .inr (.inl mE))), ((ta 6), .inl (ct 1, 32, .inr (.inl mF))), ((ta 7), .inl (ct 1, 4, .inr (.inl td))), ((ta 8), .inl (ct 1, 6, .inr (.inl cm))), ((ta 9), .inl (ct 1, 32, .inr (.inl gr))), ((ta 10), .inl (ct 0, 32, .inl gs)), ((xa 0), .inr (5, [.ref (xa 1), .ref (xa 2), .ref (xa 3), .ref (xa 7), .ref (xa 8), .ref (xa 13), .ref (xa 18), .long bq])), ((xa 1), .inl (ct 1, 32, .inr (.inl vs_1))), ((xa 2), .inl (ct 1, 32, .inr (.inl vo_1))), ((xa 3), .inl (ct 4, 3, .inr (.inr (.inr (.inr (rw3 (xa 4) (xa 5) (xa 6))))))), ((xa 4), .inl (ct 1, 32, .inr (.inl k0_1))), ((xa 5), .inl (ct 1, 32, .inr (.inl Tk1))), ((xa 6), .inl (ct 1, 32, .inr (.inl Tk2)))]) ek0_1 hx hb hE hP hD hS rfl rfl (by omega) (by decide) rfl d_Step_lookAtCells_73 (fun H locs hP hD hS => ?_)
        refine lv_aload_n hx hb d_Step_lookAtCells_74 rfl (lv_at hl 3 rfl) ?_
        refine q_get 11 2 i_Step rfl hx hb hts hown hE hP rfl (by decide) x_246 rfl d_Step_lookAtCells_75 ?_
        refine lv_iconst (v := 1) hx hb d_Step_lookAtCells_78 (by decide) ?_
        refine q_aald (k := 1) (r := (xa 5)) 14 hx hb hE hP rfl rfl (by decide) (by decide) rfl d_Step_lookAtCells_79 ?_
        refine lv_iload_n hx hb d_Step_lookAtCells_80 rfl (lv_at hl 5 rfl) ?_
        refine lv_lload hx hb d_Step_lookAtCells_81 (lv_at hl 1 rfl) ?_
        refine lv_lload hx hb d_Step_lookAtCells_83 (lv_at hl 1 rfl) ?_
        refine lv_lmul hx hb d_Step_lookAtCells_85 ?_
        refine lv_lload_n hx hb d_Step_lookAtCells_86 rfl (lv_at hl 2 rfl) ?_
        refine cRS (As := [.long ((mP i) * (mP i)), .long (mM i)]) (rest := [.int (nI i), .ref (xa 5)]) K_Math_floorDiv x_497 hx hb hml hown hts hE hV hS (c_Math_floorDiv l D ct st ((mP i) * (mP i)) (mM i) (by have := ok9.1.1; omega)) (fun k q h => by simp at h) rfl hl.1 rfl (Nat.le_of_ble_eq_true rfl) d_Step_lookAtCells_87 (Nat.le_of_ble_eq_true rfl) (Nat.le_of_ble_eq_true rfl) ⟨Nat.le_of_ble_eq_true rfl, Nat.le_of_ble_eq_true rfl⟩ ?_
        refine lv_lload hx hb d_Step_lookAtCells_90 (lv_at hl 0 rfl) ?_
        refine lv_ladd hx hb d_Step_lookAtCells_92 ?_
        obtain ⟨k1_1, ek1_1⟩ : ∃ g9 : Nat → Int64, g9 = vp_updL Tk1 i ((fd ((mP i) * (mP i)) (mM i)) + (w_pr g mM mP mE i)) := ⟨_, rfl⟩
        refine q_last (k := i) 16 (ws1 := [((ta 0), .inr (7, [.ref (ta 1), .int (nI n), .int (nI lft), .int (nI rgt), .int (nI ns), .ref (ta 2), .ref (ta 7), .ref (ta 8), .ref (ta 9), .ref (ta 10)])), ((ta 1), .inr (1, [.int (nI g), .int ign, .int part, .int heat])), ((ta 2), .inl (ct 4, 4, .inr (.inr (.inr (.inr (rw4 (ta 3) (ta 4) (ta 5) (ta 6))))))), ((ta 3), .inl (ct 1, 32, .inr (.inl mM))), ((ta 4), .inl (ct 1, 32, .inr (.inl mP))), ((ta 5), .inl (ct 1, 32, .inr (.inl mE))), ((ta 6), .inl (ct 1, 32, .inr (.inl mF))), ((ta 7), .inl (ct 1, 4, .inr (.inl td))), ((ta 8), .inl (ct 1, 6, .inr (.inl cm))), ((ta 9), .inl (ct 1, 32, .inr (.inl gr))), ((ta 10), .inl (ct 0, 32, .inl gs)), ((xa 0), .inr (5, [.ref (xa 1), .ref (xa 2), .ref (xa 3), .ref (xa 7), .ref (xa 8), .ref (xa 13), .ref (xa 18), .long bq])), ((xa 1), .inl (ct 1, 32, .inr (.inl vs_1))), ((xa 2), .inl (ct 1, 32, .inr (.inl vo_1))), ((xa 3), .inl (ct 4, 3, .inr (.inr (.inr (.inr (rw3 (xa 4) (xa 5) (xa 6))))))), ((xa 4), .inl (ct 1, 32, .inr (.inl k0_1))), ((xa 5), .inl (ct 1, 32, .inr (.inl k1_1))), ((xa 6), .inl (ct 1, 32, .inr (.inl Tk2)))]) ek1_1 hx hb hE hP hD hS rfl rfl (by omega) (by decide) rfl d_Step_lookAtCells_93 (fun H locs hP hD hS => ?_)
        refine lv_aload_n hx hb d_Step_lookAtCells_94 rfl (lv_at hl 3 rfl) ?_
        refine q_get 11 2 i_Step rfl hx hb hts hown hE hP rfl (by decide) x_246 rfl d_Step_lookAtCells_95 ?_
        refine lv_iconst (v := 2) hx hb d_Step_lookAtCells_98 (by decide) ?_
        refine q_aald (k := 2) (r := (xa 6)) 14 hx hb hE hP rfl rfl (by decide) (by decide) rfl d_Step_lookAtCells_99 ?_
        refine lv_iload_n hx hb d_Step_lookAtCells_100 rfl (lv_at hl 5 rfl) ?_
        refine lv_aload_n hx hb d_Step_lookAtCells_101 rfl (lv_at hl 4 rfl) ?_
        refine q_get 0 5 i_Tube rfl hx hb hts hown hE hP rfl (by decide) x_91 rfl d_Step_lookAtCells_102 ?_
        refine lv_iconst (v := 2) hx hb d_Step_lookAtCells_105 (by decide) ?_
        refine q_aald (k := 2) (r := (ta 5)) 2 hx hb hE hP rfl rfl (by decide) (by decide) rfl d_Step_lookAtCells_106 ?_
        refine lv_iload_n hx hb d_Step_lookAtCells_107 rfl (lv_at hl 5 rfl) ?_
        refine q_lald (k := i) 5 hx hb hE hP rfl rfl (by omega) (by decide) d_Step_lookAtCells_108 ?_
        refine lv_lload hx hb d_Step_lookAtCells_109 (lv_at hl 0 rfl) ?_
        refine lv_ladd hx hb d_Step_lookAtCells_111 ?_
        refine lv_lload hx hb d_Step_lookAtCells_112 (lv_at hl 1 rfl) ?_
        refine lv_lmul hx hb d_Step_lookAtCells_114 ?_
        refine lv_lload_n hx hb d_Step_lookAtCells_115 rfl (lv_at hl 2 rfl) ?_
        refine cRS (As := [.long (((mE i) + (w_pr g mM mP mE i)) * (mP i)), .long (mM i)]) (rest := [.int (nI i), .ref (xa 6)]) K_Math_floorDiv x_497 hx hb hml hown hts hE hV hS (c_Math_floorDiv l D ct st (((mE i) + (w_pr g mM mP mE i)) * (mP i)) (mM i) (by have := ok9.1.1; omega)) (fun k q h => by simp at h) rfl hl.1 rfl (Nat.le_of_ble_eq_true rfl) d_Step_lookAtCells_116 (Nat.le_of_ble_eq_true rfl) (Nat.le_of_ble_eq_true rfl) ⟨Nat.le_of_ble_eq_true rfl, Nat.le_of_ble_eq_true rfl⟩ ?_
        obtain ⟨k2_1, ek2_1⟩ : ∃ g9 : Nat → Int64, g9 = vp_updL Tk2 i (fd (((mE i) + (w_pr g mM mP mE i)) * (mP i)) (mM i)) := ⟨_, rfl⟩
        refine q_last (k := i) 17 (ws1 := [((ta 0), .inr (7, [.ref (ta 1), .int (nI n), .int (nI lft), .int (nI rgt), .int (nI ns), .ref (ta 2), .ref (ta 7), .ref (ta 8), .ref (ta 9), .ref (ta 10)])), ((ta 1), .inr (1, [.int (nI g), .int ign, .int part, .int heat])), ((ta 2), .inl (ct 4, 4, .inr (.inr (.inr (.inr (rw4 (ta 3) (ta 4) (ta 5) (ta 6))))))), ((ta 3), .inl (ct 1, 32, .inr (.inl mM))), ((ta 4), .inl (ct 1, 32, .inr (.inl mP))), ((ta 5), .inl (ct 1, 32, .inr (.inl mE))), ((ta 6), .inl (ct 1, 32, .inr (.inl mF))), ((ta 7), .inl (ct 1, 4, .inr (.inl td))), ((ta 8), .inl (ct 1, 6, .inr (.inl cm))), ((ta 9), .inl (ct 1, 32, .inr (.inl gr))), ((ta 10), .inl (ct 0, 32, .inl gs)), ((xa 0), .inr (5, [.ref (xa 1), .ref (xa 2), .ref (xa 3), .ref (xa 7), .ref (xa 8), .ref (xa 13), .ref (xa 18), .long bq])), ((xa 1), .inl (ct 1, 32, .inr (.inl vs_1))), ((xa 2), .inl (ct 1, 32, .inr (.inl vo_1))), ((xa 3), .inl (ct 4, 3, .inr (.inr (.inr (.inr (rw3 (xa 4) (xa 5) (xa 6))))))), ((xa 4), .inl (ct 1, 32, .inr (.inl k0_1))), ((xa 5), .inl (ct 1, 32, .inr (.inl k1_1))), ((xa 6), .inl (ct 1, 32, .inr (.inl k2_1)))]) ek2_1 hx hb hE hP hD hS rfl rfl (by omega) (by decide) rfl d_Step_lookAtCells_119 (fun H locs hP hD hS => ?_)
        refine lv_iinc (v := (nI (i + 1))) (lv' := [(2, .int (nI (i + 1))), (7, .long (w_pr g mM mP mE i)), (5, .long (mP i)), (3, .long (mM i)), (0, .ref (xa 0)), (1, .ref (ta 0))]) hx hb d_Step_lookAtCells_120 hl (k := 5) rfl (nI_1 _) (by decide) rfl (fun ls hl => ?_)
        refine lv_goto (tgt := 2) hx hb d_Step_lookAtCells_123 (by decide) ?_
        exact ih_2 (i + 1) vs_1 vo_1 k0_1 k1_1 k2_1 (by omega) (lk_step hL evs_1 evo_1 ek0_1 ek1_1 ek2_1) (by omega) _ _ _ hP hD hS (lv_sub hl [4, 5, 0] rfl)
  exact loop_2 _ 0 vs vo k0 k1 k2 (by omega) (fun j hj => absurd hj (Nat.not_lt_zero _)) (Nat.lt_succ_self _) _ _ _ hP hD hS (lv_sub hl [1, 2, 0] rfl)
set_option maxHeartbeats 4000000 in
set_option maxRecDepth 100000 in
theorem c_Step_paceAt (l : Launch) (D : va_G) (ct : Nat → ClassId) (st : Nat → Nat) (ta : Nat → Nat) (g : Nat) (ign : Int32) (part : Int32) (heat : Int32) (n : Nat) (lft : Nat) (rgt : Nat) (ns : Nat) (mM : Nat → Int64) (mP : Nat → Int64) (mE : Nat → Int64) (mF : Nat → Int64) (td : Nat → Int64) (cm : Nat → Int64) (gr : Nat → Int64) (gs : Nat → Int32) (xa : Nat → Nat) (bq : Int64) (vs : Nat → Int64) (vo : Nat → Int64) (b9 : Nat) (hg : g < 3) (hn2 : 2 ≤ n) (hn : n ≤ 32) (hlf9 : lft ≤ 1) (hrg9 : rgt ≤ 1) (hok : ∀ c, c < n → OkC mM mP mE mF c) (hb9 : b9 ≤ n) (hL : LkA g n mM mP mE vs vo) : Met l y_Step_paceAt (wsy y_Step_paceAt b_Step_paceAt 9 (some .long)) (k2_rm 2 48) (PcR D ct st [.ref (xa 0), .ref (ta 0), .int (nI b9)] [((ta 0), .inr (7, [.ref (ta 1), .int (nI n), .int (nI lft), .int (nI rgt), .int (nI ns), .ref (ta 2), .ref (ta 7), .ref (ta 8), .ref (ta 9), .ref (ta 10)])), ((ta 1), .inr (1, [.int (nI g), .int ign, .int part, .int heat])), ((ta 2), .inl (ct 4, 4, .inr (.inr (.inr (.inr (rw4 (ta 3) (ta 4) (ta 5) (ta 6))))))), ((ta 3), .inl (ct 1, 32, .inr (.inl mM))), ((ta 4), .inl (ct 1, 32, .inr (.inl mP))), ((ta 5), .inl (ct 1, 32, .inr (.inl mE))), ((ta 6), .inl (ct 1, 32, .inr (.inl mF))), ((ta 7), .inl (ct 1, 4, .inr (.inl td))), ((ta 8), .inl (ct 1, 6, .inr (.inl cm))), ((ta 9), .inl (ct 1, 32, .inr (.inl gr))), ((ta 10), .inl (ct 0, 32, .inl gs)), ((xa 0), .inr (5, [.ref (xa 1), .ref (xa 2), .ref (xa 3), .ref (xa 7), .ref (xa 8), .ref (xa 13), .ref (xa 18), .long bq])), ((xa 1), .inl (ct 1, 32, .inr (.inl vs))), ((xa 2), .inl (ct 1, 32, .inr (.inl vo)))]) (k2_QcV (.long (w_pace g mM mP mE n lft rgt b9))) 0 0 (fun _ => False) := by
  refine enterR (by decide) (Nat.le_of_ble_eq_true rfl) ?_
  intro p e s m args below meth c ls hx hb hr hml hown hts hlk hP hE hV hS hl
  have hl : lv_has ls 9 [(0, .ref (xa 0)), (1, .ref (ta 0)), (2, .int (nI b9))] := hl
  have h1 := lf_lt (n := n) hn2 hb9
  have h2 := rg_lt (n := n) hn2 hb9
  refine lv_iload_n hx hb d_Step_paceAt_0 rfl (lv_at hl 2 rfl) ?_
  refine cRS (As := [.int (nI b9)]) (rest := []) K_Step_leftOf x_506 hx hb hml hown hts hE hV hS (c_Step_leftOf l D ct st b9 (by omega)) (fun k q h => by simp at h) rfl hl.1 rfl (Nat.le_of_ble_eq_true rfl) d_Step_paceAt_1 (Nat.le_of_ble_eq_true rfl) (Nat.le_of_ble_eq_true rfl) ⟨Nat.zero_le _, Nat.zero_le _⟩ ?_
  refine lv_istore_n (lv' := [(3, .int (nI (w_lf b9))), (0, .ref (xa 0)), (1, .ref (ta 0)), (2, .int (nI b9))]) hx hb d_Step_paceAt_4 rfl hl (by decide) rfl (fun ls hl => ?_)
  refine lv_aload_n hx hb d_Step_paceAt_5 rfl (lv_at hl 2 rfl) ?_
  refine lv_iload_n hx hb d_Step_paceAt_6 rfl (lv_at hl 3 rfl) ?_
  refine cRS (As := [.ref (ta 0), .int (nI b9)]) (rest := []) K_Step_rightOf x_512 hx hb hml hown hts hE hV hS (c_Step_rightOf l D ct st ta g ign part heat n lft rgt ns mM mP mE mF td cm gr gs b9 (by omega) (by omega) (by omega)) (hP.sub (ws' := [((ta 0), .inr (7, [.ref (ta 1), .int (nI n), .int (nI lft), .int (nI rgt), .int (nI ns), .ref (ta 2), .ref (ta 7), .ref (ta 8), .ref (ta 9), .ref (ta 10)])), ((ta 1), .inr (1, [.int (nI g), .int ign, .int part, .int heat])), ((ta 2), .inl (ct 4, 4, .inr (.inr (.inr (.inr (rw4 (ta 3) (ta 4) (ta 5) (ta 6))))))), ((ta 3), .inl (ct 1, 32, .inr (.inl mM))), ((ta 4), .inl (ct 1, 32, .inr (.inl mP))), ((ta 5), .inl (ct 1, 32, .inr (.inl mE))), ((ta 6), .inl (ct 1, 32, .inr (.inl mF))), ((ta 7), .inl (ct 1, 4, .inr (.inl td))), ((ta 8), .inl (ct 1, 6, .inr (.inl cm))), ((ta 9), .inl (ct 1, 32, .inr (.inl gr))), ((ta 10), .inl (ct 0, 32, .inl gs))]) [0, 1, 2, 3, 4, 5, 6, 7, 8, 9, 10] rfl) rfl hl.1 rfl (Nat.le_of_ble_eq_true rfl) d_Step_paceAt_7 (Nat.le_of_ble_eq_true rfl) (Nat.le_of_ble_eq_true rfl) ⟨Nat.zero_le _, Nat.zero_le _⟩ ?_
  refine lv_istore (lv' := [(4, .int (nI (w_rg n b9))), (3, .int (nI (w_lf b9))), (0, .ref (xa 0)), (1, .ref (ta 0)), (2, .int (nI b9))]) hx hb d_Step_paceAt_10 hl (by decide) rfl (fun ls hl => ?_)
  refine lv_aload_n hx hb d_Step_paceAt_12 rfl (lv_at hl 2 rfl) ?_
  refine q_get 11 0 i_Step rfl hx hb hts hown hE hP rfl (by decide) x_244 rfl d_Step_paceAt_13 ?_
  refine lv_iload_n hx hb d_Step_paceAt_16 rfl (lv_at hl 1 rfl) ?_
  refine q_lald (k := (w_lf b9)) 12 hx hb hE hP rfl rfl (by omega) (by decide) d_Step_paceAt_17 ?_
  refine va_mabs_long hx hb (by rw [hml]; exact hl.1.symm) hown (hts _ (List.mem_cons_of_mem _ x_516)) (hts _ (List.mem_cons_of_mem _ x_517)) (hts _ (List.mem_cons_of_mem _ x_13)) (hts _ (List.mem_cons_of_mem _ x_518)) (Nat.le_of_ble_eq_true rfl) (Nat.le_of_ble_eq_true rfl) (Nat.zero_le _) (Nat.zero_le _) d_Step_paceAt_18 ?_
  refine q_topl (v := (abL (vs (w_lf b9)))) rfl ?_
  refine lv_lstore (lv' := [(5, .long (abL (vs (w_lf b9)))), (4, .int (nI (w_rg n b9))), (3, .int (nI (w_lf b9))), (0, .ref (xa 0)), (1, .ref (ta 0)), (2, .int (nI b9))]) hx hb d_Step_paceAt_21 hl (by decide) rfl (fun ls hl => ?_)
  refine lv_aload_n hx hb d_Step_paceAt_23 rfl (lv_at hl 4 rfl) ?_
  refine lv_iload_n hx hb d_Step_paceAt_24 rfl (lv_at hl 5 rfl) ?_
  refine cRV (As := [.int (nI b9)]) (rest := []) (q9 := 0) (ci := 7) K_Tube_isWall x_519 hx hb hml hown hts hE hV hS (c_Tube_isWall l D ct st ta g ign part heat n lft rgt ns mM mP mE mF td cm gr gs b9 (by omega) (by omega) (by omega) (by omega)) (hP.sub (ws' := [((ta 0), .inr (7, [.ref (ta 1), .int (nI n), .int (nI lft), .int (nI rgt), .int (nI ns), .ref (ta 2), .ref (ta 7), .ref (ta 8), .ref (ta 9), .ref (ta 10)])), ((ta 1), .inr (1, [.int (nI g), .int ign, .int part, .int heat])), ((ta 2), .inl (ct 4, 4, .inr (.inr (.inr (.inr (rw4 (ta 3) (ta 4) (ta 5) (ta 6))))))), ((ta 3), .inl (ct 1, 32, .inr (.inl mM))), ((ta 4), .inl (ct 1, 32, .inr (.inl mP))), ((ta 5), .inl (ct 1, 32, .inr (.inl mE))), ((ta 6), .inl (ct 1, 32, .inr (.inl mF))), ((ta 7), .inl (ct 1, 4, .inr (.inl td))), ((ta 8), .inl (ct 1, 6, .inr (.inl cm))), ((ta 9), .inl (ct 1, 32, .inr (.inl gr))), ((ta 10), .inl (ct 0, 32, .inl gs))]) [0, 1, 2, 3, 4, 5, 6, 7, 8, 9, 10] rfl) rfl hP rfl rfl hl.1 rfl (Nat.le_of_ble_eq_true rfl) d_Step_paceAt_25 (Nat.le_of_ble_eq_true rfl) (Nat.le_of_ble_eq_true rfl) ⟨Nat.zero_le _, Nat.zero_le _⟩ ?_
  refine q_ifeq_b (tgt := 65) hx hb d_Step_paceAt_28 (by decide) (fun h_28 => ?_) (fun h_28 => ?_)
  · refine lv_lload hx hb d_Step_paceAt_65 (lv_at hl 0 rfl) ?_
    refine lv_aload_n hx hb d_Step_paceAt_67 rfl (lv_at hl 3 rfl) ?_
    refine q_get 11 1 i_Step rfl hx hb hts hown hE hP rfl (by decide) x_245 rfl d_Step_paceAt_68 ?_
    refine lv_iload_n hx hb d_Step_paceAt_71 rfl (lv_at hl 2 rfl) ?_
    refine q_lald (k := (w_lf b9)) 13 hx hb hE hP rfl rfl (by omega) (by decide) d_Step_paceAt_72 ?_
    refine lv_ladd hx hb d_Step_paceAt_73 ?_
    refine lv_aload_n hx hb d_Step_paceAt_74 rfl (lv_at hl 3 rfl) ?_
    refine q_get 11 0 i_Step rfl hx hb hts hown hE hP rfl (by decide) x_244 rfl d_Step_paceAt_75 ?_
    refine lv_iload hx hb d_Step_paceAt_78 (lv_at hl 1 rfl) ?_
    refine q_lald (k := (w_rg n b9)) 12 hx hb hE hP rfl rfl (by omega) (by decide) d_Step_paceAt_80 ?_
    refine va_mabs_long hx hb (by rw [hml]; exact hl.1.symm) hown (hts _ (List.mem_cons_of_mem _ x_516)) (hts _ (List.mem_cons_of_mem _ x_517)) (hts _ (List.mem_cons_of_mem _ x_13)) (hts _ (List.mem_cons_of_mem _ x_518)) (Nat.le_of_ble_eq_true rfl) (Nat.le_of_ble_eq_true rfl) (Nat.zero_le _) (Nat.zero_le _) d_Step_paceAt_81 ?_
    refine q_topl (v := (abL (vs (w_rg n b9)))) rfl ?_
    refine lv_aload_n hx hb d_Step_paceAt_84 rfl (lv_at hl 3 rfl) ?_
    refine q_get 11 1 i_Step rfl hx hb hts hown hE hP rfl (by decide) x_245 rfl d_Step_paceAt_85 ?_
    refine lv_iload hx hb d_Step_paceAt_88 (lv_at hl 1 rfl) ?_
    refine q_lald (k := (w_rg n b9)) 13 hx hb hE hP rfl rfl (by omega) (by decide) d_Step_paceAt_90 ?_
    refine lv_ladd hx hb d_Step_paceAt_91 ?_
    refine va_mmax_long hx hb (by rw [hml]; exact hl.1.symm) hown (hts _ (List.mem_cons_of_mem _ x_523)) (hts _ (List.mem_cons_of_mem _ x_524)) (hts _ (List.mem_cons_of_mem _ x_13)) (hts _ (List.mem_cons_of_mem _ x_525)) (Nat.le_of_ble_eq_true rfl) (Nat.le_of_ble_eq_true rfl) (Nat.zero_le _) (Nat.zero_le _) d_Step_paceAt_92 ?_
    refine q_topl (v := (mxL ((abL (vs (w_lf b9))) + (vo (w_lf b9))) ((abL (vs (w_rg n b9))) + (vo (w_rg n b9))))) rfl ?_
    exact rR_l hx hb hr hlk d_Step_paceAt_95 (pace_o hL h1 h2 h_28)
  · refine lv_aload_n hx hb d_Step_paceAt_31 rfl (lv_at hl 4 rfl) ?_
    refine q_get 0 5 i_Tube rfl hx hb hts hown hE hP rfl (by decide) x_91 rfl d_Step_paceAt_32 ?_
    refine lv_iconst (v := 0) hx hb d_Step_paceAt_35 (by decide) ?_
    refine q_aald (k := 0) (r := (ta 3)) 2 hx hb hE hP rfl rfl (by decide) (by decide) rfl d_Step_paceAt_36 ?_
    refine lv_iload_n hx hb d_Step_paceAt_37 rfl (lv_at hl 2 rfl) ?_
    refine q_lald (k := (w_lf b9)) 3 hx hb hE hP rfl rfl (by omega) (by decide) d_Step_paceAt_38 ?_
    refine lv_aload_n hx hb d_Step_paceAt_39 rfl (lv_at hl 4 rfl) ?_
    refine q_get 0 5 i_Tube rfl hx hb hts hown hE hP rfl (by decide) x_91 rfl d_Step_paceAt_40 ?_
    refine lv_iconst (v := 1) hx hb d_Step_paceAt_43 (by decide) ?_
    refine q_aald (k := 1) (r := (ta 4)) 2 hx hb hE hP rfl rfl (by decide) (by decide) rfl d_Step_paceAt_44 ?_
    refine lv_iload_n hx hb d_Step_paceAt_45 rfl (lv_at hl 2 rfl) ?_
    refine q_lald (k := (w_lf b9)) 4 hx hb hE hP rfl rfl (by omega) (by decide) d_Step_paceAt_46 ?_
    refine lv_lneg hx hb d_Step_paceAt_47 ?_
    refine cRS (As := [.long (mM (w_lf b9)), .long (-(mP (w_lf b9)))]) (rest := []) K_Laws_speed x_480 hx hb hml hown hts hE hV hS (c_Laws_speed l D ct st (mM (w_lf b9)) (-(mP (w_lf b9))) ((hok _ h1).1.1)) (fun k q h => by simp at h) rfl hl.1 rfl (Nat.le_of_ble_eq_true rfl) d_Step_paceAt_48 (Nat.le_of_ble_eq_true rfl) (Nat.le_of_ble_eq_true rfl) ⟨Nat.zero_le _, Nat.zero_le _⟩ ?_
    refine lv_lstore (lv' := [(7, .long (fd (1000 * (-(mP (w_lf b9)))) (mM (w_lf b9)))), (5, .long (abL (vs (w_lf b9)))), (4, .int (nI (w_rg n b9))), (3, .int (nI (w_lf b9))), (0, .ref (xa 0)), (1, .ref (ta 0)), (2, .int (nI b9))]) hx hb d_Step_paceAt_51 hl (by decide) rfl (fun ls hl => ?_)
    refine lv_lload hx hb d_Step_paceAt_53 (lv_at hl 1 rfl) ?_
    refine lv_lload hx hb d_Step_paceAt_55 (lv_at hl 0 rfl) ?_
    refine va_mabs_long hx hb (by rw [hml]; exact hl.1.symm) hown (hts _ (List.mem_cons_of_mem _ x_516)) (hts _ (List.mem_cons_of_mem _ x_517)) (hts _ (List.mem_cons_of_mem _ x_13)) (hts _ (List.mem_cons_of_mem _ x_518)) (Nat.le_of_ble_eq_true rfl) (Nat.le_of_ble_eq_true rfl) (Nat.zero_le _) (Nat.zero_le _) d_Step_paceAt_57 ?_
    refine q_topl (v := (abL (fd (1000 * (-(mP (w_lf b9)))) (mM (w_lf b9))))) rfl ?_
    refine va_mmax_long hx hb (by rw [hml]; exact hl.1.symm) hown (hts _ (List.mem_cons_of_mem _ x_523)) (hts _ (List.mem_cons_of_mem _ x_524)) (hts _ (List.mem_cons_of_mem _ x_13)) (hts _ (List.mem_cons_of_mem _ x_525)) (Nat.le_of_ble_eq_true rfl) (Nat.le_of_ble_eq_true rfl) (Nat.zero_le _) (Nat.zero_le _) d_Step_paceAt_60 ?_
    refine q_topl (v := (mxL (abL (vs (w_lf b9))) (abL (fd (1000 * (-(mP (w_lf b9)))) (mM (w_lf b9)))))) rfl ?_
    refine lv_lstore (lv' := [(5, .long (mxL (abL (vs (w_lf b9))) (abL (fd (1000 * (-(mP (w_lf b9)))) (mM (w_lf b9)))))), (7, .long (fd (1000 * (-(mP (w_lf b9)))) (mM (w_lf b9)))), (4, .int (nI (w_rg n b9))), (3, .int (nI (w_lf b9))), (0, .ref (xa 0)), (1, .ref (ta 0)), (2, .int (nI b9))]) hx hb d_Step_paceAt_63 hl (by decide) rfl (fun ls hl => ?_)
    refine lv_lload hx hb d_Step_paceAt_65 (lv_at hl 0 rfl) ?_
    refine lv_aload_n hx hb d_Step_paceAt_67 rfl (lv_at hl 4 rfl) ?_
    refine q_get 11 1 i_Step rfl hx hb hts hown hE hP rfl (by decide) x_245 rfl d_Step_paceAt_68 ?_
    refine lv_iload_n hx hb d_Step_paceAt_71 rfl (lv_at hl 3 rfl) ?_
    refine q_lald (k := (w_lf b9)) 13 hx hb hE hP rfl rfl (by omega) (by decide) d_Step_paceAt_72 ?_
    refine lv_ladd hx hb d_Step_paceAt_73 ?_
    refine lv_aload_n hx hb d_Step_paceAt_74 rfl (lv_at hl 4 rfl) ?_
    refine q_get 11 0 i_Step rfl hx hb hts hown hE hP rfl (by decide) x_244 rfl d_Step_paceAt_75 ?_
    refine lv_iload hx hb d_Step_paceAt_78 (lv_at hl 2 rfl) ?_
    refine q_lald (k := (w_rg n b9)) 12 hx hb hE hP rfl rfl (by omega) (by decide) d_Step_paceAt_80 ?_
    refine va_mabs_long hx hb (by rw [hml]; exact hl.1.symm) hown (hts _ (List.mem_cons_of_mem _ x_516)) (hts _ (List.mem_cons_of_mem _ x_517)) (hts _ (List.mem_cons_of_mem _ x_13)) (hts _ (List.mem_cons_of_mem _ x_518)) (Nat.le_of_ble_eq_true rfl) (Nat.le_of_ble_eq_true rfl) (Nat.zero_le _) (Nat.zero_le _) d_Step_paceAt_81 ?_
    refine q_topl (v := (abL (vs (w_rg n b9)))) rfl ?_
    refine lv_aload_n hx hb d_Step_paceAt_84 rfl (lv_at hl 4 rfl) ?_
    refine q_get 11 1 i_Step rfl hx hb hts hown hE hP rfl (by decide) x_245 rfl d_Step_paceAt_85 ?_
    refine lv_iload hx hb d_Step_paceAt_88 (lv_at hl 2 rfl) ?_
    refine q_lald (k := (w_rg n b9)) 13 hx hb hE hP rfl rfl (by omega) (by decide) d_Step_paceAt_90 ?_
    refine lv_ladd hx hb d_Step_paceAt_91 ?_
    refine va_mmax_long hx hb (by rw [hml]; exact hl.1.symm) hown (hts _ (List.mem_cons_of_mem _ x_523)) (hts _ (List.mem_cons_of_mem _ x_524)) (hts _ (List.mem_cons_of_mem _ x_13)) (hts _ (List.mem_cons_of_mem _ x_525)) (Nat.le_of_ble_eq_true rfl) (Nat.le_of_ble_eq_true rfl) (Nat.zero_le _) (Nat.zero_le _) d_Step_paceAt_92 ?_
    refine q_topl (v := (mxL ((mxL (abL (vs (w_lf b9))) (abL (fd (1000 * (-(mP (w_lf b9)))) (mM (w_lf b9))))) + (vo (w_lf b9))) ((abL (vs (w_rg n b9))) + (vo (w_rg n b9))))) rfl ?_
    exact rR_l hx hb hr hlk d_Step_paceAt_95 (pace_w hg hn2 hb9 hL hok h1 h_28)
set_option maxHeartbeats 4000000 in
set_option maxRecDepth 100000 in
theorem c_Step_isSlowEnough (l : Launch) (D : va_G) (ct : Nat → ClassId) (st : Nat → Nat) (ta : Nat → Nat) (g : Nat) (ign : Int32) (part : Int32) (heat : Int32) (n : Nat) (lft : Nat) (rgt : Nat) (ns : Nat) (mM : Nat → Int64) (mP : Nat → Int64) (mE : Nat → Int64) (mF : Nat → Int64) (td : Nat → Int64) (cm : Nat → Int64) (gr : Nat → Int64) (gs : Nat → Int32) (xa : Nat → Nat) (bq : Int64) (vs : Nat → Int64) (vo : Nat → Int64) (pa9 : Nat → Int64) (t9 : Nat) (hg : g < 3) (hn2 : 2 ≤ n) (hn : n ≤ 32) (hlf9 : lft ≤ 1) (hrg9 : rgt ≤ 1) (hok : ∀ c, c < n → OkC mM mP mE mF c) (ht9 : t9 ≤ 400) (hL : LkA g n mM mP mE vs vo) (sz : Nat) : Met l y_Step_isSlowEnough (wsy y_Step_isSlowEnough b_Step_isSlowEnough 5 (some .boolean)) (rmW 3 0 0 76) (PcW D ct st [.ref (xa 0), .ref (ta 0), .int (nI t9)] [((ta 0), .inr (7, [.ref (ta 1), .int (nI n), .int (nI lft), .int (nI rgt), .int (nI ns), .ref (ta 2), .ref (ta 7), .ref (ta 8), .ref (ta 9), .ref (ta 10)])), ((ta 1), .inr (1, [.int (nI g), .int ign, .int part, .int heat])), ((ta 2), .inl (ct 4, 4, .inr (.inr (.inr (.inr (rw4 (ta 3) (ta 4) (ta 5) (ta 6))))))), ((ta 3), .inl (ct 1, 32, .inr (.inl mM))), ((ta 4), .inl (ct 1, 32, .inr (.inl mP))), ((ta 5), .inl (ct 1, 32, .inr (.inl mE))), ((ta 6), .inl (ct 1, 32, .inr (.inl mF))), ((ta 7), .inl (ct 1, 4, .inr (.inl td))), ((ta 8), .inl (ct 1, 6, .inr (.inl cm))), ((ta 9), .inl (ct 1, 32, .inr (.inl gr))), ((ta 10), .inl (ct 0, 32, .inl gs)), ((xa 0), .inr (5, [.ref (xa 1), .ref (xa 2), .ref (xa 3), .ref (xa 7), .ref (xa 8), .ref (xa 13), .ref (xa 18), .long bq])), ((xa 1), .inl (ct 1, 32, .inr (.inl vs))), ((xa 2), .inl (ct 1, 32, .inr (.inl vo))), ((xa 7), .inl (ct 1, 33, .inr (.inl pa9)))] sz) (QcW D [((ta 0), .inr (7, [.ref (ta 1), .int (nI n), .int (nI lft), .int (nI rgt), .int (nI ns), .ref (ta 2), .ref (ta 7), .ref (ta 8), .ref (ta 9), .ref (ta 10)])), ((ta 1), .inr (1, [.int (nI g), .int ign, .int part, .int heat])), ((ta 2), .inl (ct 4, 4, .inr (.inr (.inr (.inr (rw4 (ta 3) (ta 4) (ta 5) (ta 6))))))), ((ta 3), .inl (ct 1, 32, .inr (.inl mM))), ((ta 4), .inl (ct 1, 32, .inr (.inl mP))), ((ta 5), .inl (ct 1, 32, .inr (.inl mE))), ((ta 6), .inl (ct 1, 32, .inr (.inl mF))), ((ta 7), .inl (ct 1, 4, .inr (.inl td))), ((ta 8), .inl (ct 1, 6, .inr (.inl cm))), ((ta 9), .inl (ct 1, 32, .inr (.inl gr))), ((ta 10), .inl (ct 0, 32, .inl gs)), ((xa 0), .inr (5, [.ref (xa 1), .ref (xa 2), .ref (xa 3), .ref (xa 7), .ref (xa 8), .ref (xa 13), .ref (xa 18), .long bq])), ((xa 1), .inl (ct 1, 32, .inr (.inl vs))), ((xa 2), .inl (ct 1, 32, .inr (.inl vo))), ((xa 7), .inl (ct 1, 33, .inr (.inl pa9)))] sz (fun v W1 => ∃ (pa91 : Nat → Int64), v = some (.int (bI (SLO (lN t9) g mM mP mE n lft rgt (n + 1)))) ∧ W1 = [((ta 0), .inr (7, [.ref (ta 1), .int (nI n), .int (nI lft), .int (nI rgt), .int (nI ns), .ref (ta 2), .ref (ta 7), .ref (ta 8), .ref (ta 9), .ref (ta 10)])), ((ta 1), .inr (1, [.int (nI g), .int ign, .int part, .int heat])), ((ta 2), .inl (ct 4, 4, .inr (.inr (.inr (.inr (rw4 (ta 3) (ta 4) (ta 5) (ta 6))))))), ((ta 3), .inl (ct 1, 32, .inr (.inl mM))), ((ta 4), .inl (ct 1, 32, .inr (.inl mP))), ((ta 5), .inl (ct 1, 32, .inr (.inl mE))), ((ta 6), .inl (ct 1, 32, .inr (.inl mF))), ((ta 7), .inl (ct 1, 4, .inr (.inl td))), ((ta 8), .inl (ct 1, 6, .inr (.inl cm))), ((ta 9), .inl (ct 1, 32, .inr (.inl gr))), ((ta 10), .inl (ct 0, 32, .inl gs)), ((xa 0), .inr (5, [.ref (xa 1), .ref (xa 2), .ref (xa 3), .ref (xa 7), .ref (xa 8), .ref (xa 13), .ref (xa 18), .long bq])), ((xa 1), .inl (ct 1, 32, .inr (.inl vs))), ((xa 2), .inl (ct 1, 32, .inr (.inl vo))), ((xa 7), .inl (ct 1, 33, .inr (.inl pa91)))] ∧ (∀ j, j ≤ n → pa91 j = w_pace g mM mP mE n lft rgt j))) 0 0 (va_A [((ta 0), .inr (7, [.ref (ta 1), .int (nI n), .int (nI lft), .int (nI rgt), .int (nI ns), .ref (ta 2), .ref (ta 7), .ref (ta 8), .ref (ta 9), .ref (ta 10)])), ((ta 1), .inr (1, [.int (nI g), .int ign, .int part, .int heat])), ((ta 2), .inl (ct 4, 4, .inr (.inr (.inr (.inr (rw4 (ta 3) (ta 4) (ta 5) (ta 6))))))), ((ta 3), .inl (ct 1, 32, .inr (.inl mM))), ((ta 4), .inl (ct 1, 32, .inr (.inl mP))), ((ta 5), .inl (ct 1, 32, .inr (.inl mE))), ((ta 6), .inl (ct 1, 32, .inr (.inl mF))), ((ta 7), .inl (ct 1, 4, .inr (.inl td))), ((ta 8), .inl (ct 1, 6, .inr (.inl cm))), ((ta 9), .inl (ct 1, 32, .inr (.inl gr))), ((ta 10), .inl (ct 0, 32, .inl gs)), ((xa 0), .inr (5, [.ref (xa 1), .ref (xa 2), .ref (xa 3), .ref (xa 7), .ref (xa 8), .ref (xa 13), .ref (xa 18), .long bq])), ((xa 1), .inl (ct 1, 32, .inr (.inl vs))), ((xa 2), .inl (ct 1, 32, .inr (.inl vo))), ((xa 7), .inl (ct 1, 33, .inr (.inl pa9)))] sz) := by
  refine enterW (by decide) (Nat.le_of_ble_eq_true rfl) ?_
  intro p e s m args below meth c ls A hx hb hr hml hown hts hlk hin hsz hAe hP hD hA hE hV hS hl
  have hl : lv_has ls 5 [(0, .ref (xa 0)), (1, .ref (ta 0)), (2, .int (nI t9))] := hl
  refine lv_iconst (v := 1) hx hb d_Step_isSlowEnough_0 (by decide) ?_
  refine q_topi (v := bI (SLO (lN t9) g mM mP mE n lft rgt 0)) (bI_1 (fun b hb => absurd hb (Nat.not_lt_zero _))) ?_
  refine lv_istore_n (lv' := [(3, .int (bI (SLO (lN t9) g mM mP mE n lft rgt 0))), (0, .ref (xa 0)), (1, .ref (ta 0)), (2, .int (nI t9))]) hx hb d_Step_isSlowEnough_1 rfl hl (by decide) rfl (fun ls hl => ?_)
  refine lv_iconst (v := 0) hx hb d_Step_isSlowEnough_2 (by decide) ?_
  refine lv_istore (lv' := [(4, .int 0), (3, .int (bI (SLO (lN t9) g mM mP mE n lft rgt 0))), (0, .ref (xa 0)), (1, .ref (ta 0)), (2, .int (nI t9))]) hx hb d_Step_isSlowEnough_3 hl (by decide) rfl (fun ls hl => ?_)
  have loop_5 : ∀ (n9 : Nat) (i : Nat) (Tpa : Nat → Int64) (hi : i ≤ n + 1) (hpa : ∀ j, j < i → Tpa j = w_pace g mM mP mE n lft rgt j) (hn9 : n + 1 - i < n9) (H : Heap) (locs : List Loc) (ls : Array Slot), va_P D classes [((ta 0), .inr (7, [.ref (ta 1), .int (nI n), .int (nI lft), .int (nI rgt), .int (nI ns), .ref (ta 2), .ref (ta 7), .ref (ta 8), .ref (ta 9), .ref (ta 10)])), ((ta 1), .inr (1, [.int (nI g), .int ign, .int part, .int heat])), ((ta 2), .inl (ct 4, 4, .inr (.inr (.inr (.inr (rw4 (ta 3) (ta 4) (ta 5) (ta 6))))))), ((ta 3), .inl (ct 1, 32, .inr (.inl mM))), ((ta 4), .inl (ct 1, 32, .inr (.inl mP))), ((ta 5), .inl (ct 1, 32, .inr (.inl mE))), ((ta 6), .inl (ct 1, 32, .inr (.inl mF))), ((ta 7), .inl (ct 1, 4, .inr (.inl td))), ((ta 8), .inl (ct 1, 6, .inr (.inl cm))), ((ta 9), .inl (ct 1, 32, .inr (.inl gr))), ((ta 10), .inl (ct 0, 32, .inl gs)), ((xa 0), .inr (5, [.ref (xa 1), .ref (xa 2), .ref (xa 3), .ref (xa 7), .ref (xa 8), .ref (xa 13), .ref (xa 18), .long bq])), ((xa 1), .inl (ct 1, 32, .inr (.inl vs))), ((xa 2), .inl (ct 1, 32, .inr (.inl vo))), ((xa 7), .inl (ct 1, 33, .inr (.inl Tpa)))] H → va_D A [((ta 0), .inr (7, [.ref (ta 1), .int (nI n), .int (nI lft), .int (nI rgt), .int (nI ns), .ref (ta 2), .ref (ta 7), .ref (ta 8), .ref (ta 9), .ref (ta 10)])), ((ta 1), .inr (1, [.int (nI g), .int ign, .int part, .int heat])), ((ta 2), .inl (ct 4, 4, .inr (.inr (.inr (.inr (rw4 (ta 3) (ta 4) (ta 5) (ta 6))))))), ((ta 3), .inl (ct 1, 32, .inr (.inl mM))), ((ta 4), .inl (ct 1, 32, .inr (.inl mP))), ((ta 5), .inl (ct 1, 32, .inr (.inl mE))), ((ta 6), .inl (ct 1, 32, .inr (.inl mF))), ((ta 7), .inl (ct 1, 4, .inr (.inl td))), ((ta 8), .inl (ct 1, 6, .inr (.inl cm))), ((ta 9), .inl (ct 1, 32, .inr (.inl gr))), ((ta 10), .inl (ct 0, 32, .inl gs)), ((xa 0), .inr (5, [.ref (xa 1), .ref (xa 2), .ref (xa 3), .ref (xa 7), .ref (xa 8), .ref (xa 13), .ref (xa 18), .long bq])), ((xa 1), .inl (ct 1, 32, .inr (.inl vs))), ((xa 2), .inl (ct 1, 32, .inr (.inl vo))), ((xa 7), .inl (ct 1, 33, .inr (.inl Tpa)))] → va_S A s.heap H locs → lv_has ls 5 [(0, .ref (xa 0)), (1, .ref (ta 0)), (2, .int (nI t9)), (3, .int (bI (SLO (lN t9) g mM mP mE n lft rgt i))), (4, .int (nI i))] → W p l e (rmW 3 0 0 76) s m args below meth c H locs (0) (0) (MQ below (QcW D [((ta 0), .inr (7, [.ref (ta 1), .int (nI n), .int (nI lft), .int (nI rgt), .int (nI ns), .ref (ta 2), .ref (ta 7), .ref (ta 8), .ref (ta 9), .ref (ta 10)])), ((ta 1), .inr (1, [.int (nI g), .int ign, .int part, .int heat])), ((ta 2), .inl (ct 4, 4, .inr (.inr (.inr (.inr (rw4 (ta 3) (ta 4) (ta 5) (ta 6))))))), ((ta 3), .inl (ct 1, 32, .inr (.inl mM))), ((ta 4), .inl (ct 1, 32, .inr (.inl mP))), ((ta 5), .inl (ct 1, 32, .inr (.inl mE))), ((ta 6), .inl (ct 1, 32, .inr (.inl mF))), ((ta 7), .inl (ct 1, 4, .inr (.inl td))), ((ta 8), .inl (ct 1, 6, .inr (.inl cm))), ((ta 9), .inl (ct 1, 32, .inr (.inl gr))), ((ta 10), .inl (ct 0, 32, .inl gs)), ((xa 0), .inr (5, [.ref (xa 1), .ref (xa 2), .ref (xa 3), .ref (xa 7), .ref (xa 8), .ref (xa 13), .ref (xa 18), .long bq])), ((xa 1), .inl (ct 1, 32, .inr (.inl vs))), ((xa 2), .inl (ct 1, 32, .inr (.inl vo))), ((xa 7), .inl (ct 1, 33, .inr (.inl pa9)))] sz (fun v W1 => ∃ (pa91 : Nat → Int64), v = some (.int (bI (SLO (lN t9) g mM mP mE n lft rgt (n + 1)))) ∧ W1 = [((ta 0), .inr (7, [.ref (ta 1), .int (nI n), .int (nI lft), .int (nI rgt), .int (nI ns), .ref (ta 2), .ref (ta 7), .ref (ta 8), .ref (ta 9), .ref (ta 10)])), ((ta 1), .inr (1, [.int (nI g), .int ign, .int part, .int heat])), ((ta 2), .inl (ct 4, 4, .inr (.inr (.inr (.inr (rw4 (ta 3) (ta 4) (ta 5) (ta 6))))))), ((ta 3), .inl (ct 1, 32, .inr (.inl mM))), ((ta 4), .inl (ct 1, 32, .inr (.inl mP))), ((ta 5), .inl (ct 1, 32, .inr (.inl mE))), ((ta 6), .inl (ct 1, 32, .inr (.inl mF))), ((ta 7), .inl (ct 1, 4, .inr (.inl td))), ((ta 8), .inl (ct 1, 6, .inr (.inl cm))), ((ta 9), .inl (ct 1, 32, .inr (.inl gr))), ((ta 10), .inl (ct 0, 32, .inl gs)), ((xa 0), .inr (5, [.ref (xa 1), .ref (xa 2), .ref (xa 3), .ref (xa 7), .ref (xa 8), .ref (xa 13), .ref (xa 18), .long bq])), ((xa 1), .inl (ct 1, 32, .inr (.inl vs))), ((xa 2), .inl (ct 1, 32, .inr (.inl vo))), ((xa 7), .inl (ct 1, 33, .inr (.inl pa91)))] ∧ (∀ j, j ≤ n → pa91 j = w_pace g mM mP mE n lft rgt j))) args s 0 0 A) (F0 m 5 ls []) := by
    intro n9
    induction n9 with
    | zero => intro i Tpa hi hpa hn9 H locs ls hP hD hS hl; exact absurd hn9 (Nat.not_lt_zero _)
    | succ n9 ih_5 =>
      intro i Tpa hi hpa hn9 H locs ls hP hD hS hl
      refine lv_iload hx hb d_Step_isSlowEnough_5 (lv_at hl 4 rfl) ?_
      refine lv_aload_n hx hb d_Step_isSlowEnough_7 rfl (lv_at hl 1 rfl) ?_
      refine q_get 0 1 i_Tube rfl hx hb hts hown hE hP rfl (by decide) x_83 rfl d_Step_isSlowEnough_8 ?_
      refine q_icmp_gt_n (a := i) (b := n) (tgt := 61) hx hb d_Step_isSlowEnough_11 (by decide) rfl rfl (by omega) (by omega) (fun h_11 => ?_) (fun h_11 => ?_)
      · refine lv_iload_n hx hb d_Step_isSlowEnough_61 rfl (lv_at hl 3 rfl) ?_
        refine q_topi (v := bI (SLO (lN t9) g mM mP mE n lft rgt (n + 1))) (by rw [show i = n + 1 by omega]) ?_
        exact rW_z (P := SLO (lN t9) g mM mP mE n lft rgt (n + 1)) hx hb hr hlk hAe hS hP hD (Nat.le_of_ble_eq_true rfl) (Nat.le_of_ble_eq_true rfl) d_Step_isSlowEnough_62 (rfl) ⟨Tpa, rfl, rfl, fun j hj => hpa j (by omega)⟩
      · refine lv_aload_n hx hb d_Step_isSlowEnough_14 rfl (lv_at hl 0 rfl) ?_
        refine q_get 11 3 i_Step rfl hx hb hts hown hE hP rfl (by decide) x_247 rfl d_Step_isSlowEnough_15 ?_
        refine lv_iload hx hb d_Step_isSlowEnough_18 (lv_at hl 4 rfl) ?_
        refine lv_aload_n hx hb d_Step_isSlowEnough_20 rfl (lv_at hl 0 rfl) ?_
        refine lv_aload_n hx hb d_Step_isSlowEnough_21 rfl (lv_at hl 1 rfl) ?_
        refine lv_iload hx hb d_Step_isSlowEnough_22 (lv_at hl 4 rfl) ?_
        refine cRV (As := [.ref (ta 0), .int (nI i)]) (rest := [.int (nI i), .ref (xa 7)]) (q9 := 11) (ci := 5) K_Step_paceAt x_502 hx hb hml hown hts hE hV hS (c_Step_paceAt l D ct st ta g ign part heat n lft rgt ns mM mP mE mF td cm gr gs xa bq vs vo i (hg) (by omega) (by omega) (by omega) (by omega) (hok) (by omega) (hL)) (hP.sub (ws' := [((ta 0), .inr (7, [.ref (ta 1), .int (nI n), .int (nI lft), .int (nI rgt), .int (nI ns), .ref (ta 2), .ref (ta 7), .ref (ta 8), .ref (ta 9), .ref (ta 10)])), ((ta 1), .inr (1, [.int (nI g), .int ign, .int part, .int heat])), ((ta 2), .inl (ct 4, 4, .inr (.inr (.inr (.inr (rw4 (ta 3) (ta 4) (ta 5) (ta 6))))))), ((ta 3), .inl (ct 1, 32, .inr (.inl mM))), ((ta 4), .inl (ct 1, 32, .inr (.inl mP))), ((ta 5), .inl (ct 1, 32, .inr (.inl mE))), ((ta 6), .inl (ct 1, 32, .inr (.inl mF))), ((ta 7), .inl (ct 1, 4, .inr (.inl td))), ((ta 8), .inl (ct 1, 6, .inr (.inl cm))), ((ta 9), .inl (ct 1, 32, .inr (.inl gr))), ((ta 10), .inl (ct 0, 32, .inl gs)), ((xa 0), .inr (5, [.ref (xa 1), .ref (xa 2), .ref (xa 3), .ref (xa 7), .ref (xa 8), .ref (xa 13), .ref (xa 18), .long bq])), ((xa 1), .inl (ct 1, 32, .inr (.inl vs))), ((xa 2), .inl (ct 1, 32, .inr (.inl vo)))]) [0, 1, 2, 3, 4, 5, 6, 7, 8, 9, 10, 11, 12, 13] rfl) rfl hP rfl rfl hl.1 rfl (Nat.le_of_ble_eq_true rfl) d_Step_isSlowEnough_24 (Nat.le_of_ble_eq_true rfl) (Nat.le_of_ble_eq_true rfl) ⟨Nat.le_of_ble_eq_true rfl, Nat.le_of_ble_eq_true rfl⟩ ?_
        obtain ⟨pa9_1, epa9_1⟩ : ∃ g9 : Nat → Int64, g9 = vp_updL Tpa i (w_pace g mM mP mE n lft rgt i) := ⟨_, rfl⟩
        refine q_last (k := i) 14 (ws1 := [((ta 0), .inr (7, [.ref (ta 1), .int (nI n), .int (nI lft), .int (nI rgt), .int (nI ns), .ref (ta 2), .ref (ta 7), .ref (ta 8), .ref (ta 9), .ref (ta 10)])), ((ta 1), .inr (1, [.int (nI g), .int ign, .int part, .int heat])), ((ta 2), .inl (ct 4, 4, .inr (.inr (.inr (.inr (rw4 (ta 3) (ta 4) (ta 5) (ta 6))))))), ((ta 3), .inl (ct 1, 32, .inr (.inl mM))), ((ta 4), .inl (ct 1, 32, .inr (.inl mP))), ((ta 5), .inl (ct 1, 32, .inr (.inl mE))), ((ta 6), .inl (ct 1, 32, .inr (.inl mF))), ((ta 7), .inl (ct 1, 4, .inr (.inl td))), ((ta 8), .inl (ct 1, 6, .inr (.inl cm))), ((ta 9), .inl (ct 1, 32, .inr (.inl gr))), ((ta 10), .inl (ct 0, 32, .inl gs)), ((xa 0), .inr (5, [.ref (xa 1), .ref (xa 2), .ref (xa 3), .ref (xa 7), .ref (xa 8), .ref (xa 13), .ref (xa 18), .long bq])), ((xa 1), .inl (ct 1, 32, .inr (.inl vs))), ((xa 2), .inl (ct 1, 32, .inr (.inl vo))), ((xa 7), .inl (ct 1, 33, .inr (.inl pa9_1)))]) epa9_1 hx hb hE hP hD hS rfl rfl (by omega) (by decide) rfl d_Step_isSlowEnough_27 (fun H locs hP hD hS => ?_)
        refine lv_iload_n hx hb d_Step_isSlowEnough_28 rfl (lv_at hl 3 rfl) ?_
        refine q_ifeq_b (tgt := 53) hx hb d_Step_isSlowEnough_29 (by decide) (fun h_29 => ?_) (fun h_29 => ?_)
        · refine lv_iconst (v := 0) hx hb d_Step_isSlowEnough_53 (by decide) ?_
          refine q_topi (v := bI (SLO (lN t9) g mM mP mE n lft rgt (i + 1))) (bI_0 (by first | exact SLO.no1 h_29 | exact SLO.no2 h_46)) ?_
          refine lv_istore_n (lv' := [(3, .int (bI (SLO (lN t9) g mM mP mE n lft rgt (i + 1)))), (0, .ref (xa 0)), (1, .ref (ta 0)), (2, .int (nI t9)), (4, .int (nI i))]) hx hb d_Step_isSlowEnough_54 rfl hl (by decide) rfl (fun ls hl => ?_)
          refine lv_iinc (v := (nI (i + 1))) (lv' := [(4, .int (nI (i + 1))), (3, .int (bI (SLO (lN t9) g mM mP mE n lft rgt (i + 1)))), (0, .ref (xa 0)), (1, .ref (ta 0)), (2, .int (nI t9))]) hx hb d_Step_isSlowEnough_55 hl (k := 4) rfl (nI_1 _) (by decide) rfl (fun ls hl => ?_)
          refine lv_goto (tgt := 5) hx hb d_Step_isSlowEnough_58 (by decide) ?_
          exact ih_5 (i + 1) pa9_1 (by omega) (pa_step hpa epa9_1) (by omega) _ _ _ hP hD hS (lv_sub hl [2, 3, 4, 1, 0] rfl)
        · refine lv_iload_n hx hb d_Step_isSlowEnough_32 rfl (lv_at hl 2 rfl) ?_
          refine lv_i2l (v := lN t9) hx hb d_Step_isSlowEnough_33 (nI_l (by omega)) ?_
          refine lv_aload_n hx hb d_Step_isSlowEnough_34 rfl (lv_at hl 0 rfl) ?_
          refine q_get 11 3 i_Step rfl hx hb hts hown hE hP rfl (by decide) x_247 rfl d_Step_isSlowEnough_35 ?_
          refine lv_iload hx hb d_Step_isSlowEnough_38 (lv_at hl 4 rfl) ?_
          refine q_lald (k := i) 14 hx hb hE hP rfl rfl (by omega) (by decide) d_Step_isSlowEnough_40 ?_
          refine q_topl (v := w_pace g mM mP mE n lft rgt i) (by rw [epa9_1, pk_uLs]) ?_
          refine lv_lmul hx hb d_Step_isSlowEnough_41 ?_
          refine lv_ldc2 (v := 500000) hx hb hown (hts _ (List.mem_cons_of_mem _ x_526)) d_Step_isSlowEnough_42 ?_
          refine W.lcmp hx hb d_Step_isSlowEnough_45 ?_
          refine q_cmp_gt (tgt := 53) hx hb d_Step_isSlowEnough_46 (by decide) (fun h_46 => ?_) (fun h_46 => ?_)
          · refine lv_iconst (v := 0) hx hb d_Step_isSlowEnough_53 (by decide) ?_
            refine q_topi (v := bI (SLO (lN t9) g mM mP mE n lft rgt (i + 1))) (bI_0 (by first | exact SLO.no1 h_29 | exact SLO.no2 h_46)) ?_
            refine lv_istore_n (lv' := [(3, .int (bI (SLO (lN t9) g mM mP mE n lft rgt (i + 1)))), (0, .ref (xa 0)), (1, .ref (ta 0)), (2, .int (nI t9)), (4, .int (nI i))]) hx hb d_Step_isSlowEnough_54 rfl hl (by decide) rfl (fun ls hl => ?_)
            refine lv_iinc (v := (nI (i + 1))) (lv' := [(4, .int (nI (i + 1))), (3, .int (bI (SLO (lN t9) g mM mP mE n lft rgt (i + 1)))), (0, .ref (xa 0)), (1, .ref (ta 0)), (2, .int (nI t9))]) hx hb d_Step_isSlowEnough_55 hl (k := 4) rfl (nI_1 _) (by decide) rfl (fun ls hl => ?_)
            refine lv_goto (tgt := 5) hx hb d_Step_isSlowEnough_58 (by decide) ?_
            exact ih_5 (i + 1) pa9_1 (by omega) (pa_step hpa epa9_1) (by omega) _ _ _ hP hD hS (lv_sub hl [2, 3, 4, 1, 0] rfl)
          · refine lv_iconst (v := 1) hx hb d_Step_isSlowEnough_49 (by decide) ?_
            refine q_topi (v := bI (SLO (lN t9) g mM mP mE n lft rgt (i + 1))) (bI_1 (SLO.on h_29 h_46)) ?_
            refine lv_goto (tgt := 54) hx hb d_Step_isSlowEnough_50 (by decide) ?_
            refine lv_istore_n (lv' := [(3, .int (bI (SLO (lN t9) g mM mP mE n lft rgt (i + 1)))), (0, .ref (xa 0)), (1, .ref (ta 0)), (2, .int (nI t9)), (4, .int (nI i))]) hx hb d_Step_isSlowEnough_54 rfl hl (by decide) rfl (fun ls hl => ?_)
            refine lv_iinc (v := (nI (i + 1))) (lv' := [(4, .int (nI (i + 1))), (3, .int (bI (SLO (lN t9) g mM mP mE n lft rgt (i + 1)))), (0, .ref (xa 0)), (1, .ref (ta 0)), (2, .int (nI t9))]) hx hb d_Step_isSlowEnough_55 hl (k := 4) rfl (nI_1 _) (by decide) rfl (fun ls hl => ?_)
            refine lv_goto (tgt := 5) hx hb d_Step_isSlowEnough_58 (by decide) ?_
            exact ih_5 (i + 1) pa9_1 (by omega) (pa_step hpa epa9_1) (by omega) _ _ _ hP hD hS (lv_sub hl [2, 3, 4, 1, 0] rfl)
  exact loop_5 _ 0 pa9 (by omega) (fun j hj => absurd hj (Nat.not_lt_zero _)) (Nat.lt_succ_self _) _ _ _ hP hD hS (lv_sub hl [2, 3, 4, 1, 0] rfl)
set_option maxHeartbeats 4000000 in
set_option maxRecDepth 100000 in
theorem c_Step_goes (l : Launch) (D : va_G) (ct : Nat → ClassId) (st : Nat → Nat) (xa : Nat → Nat) (bq : Int64) (pa9 : Nat → Int64) (t9 : Nat) (b9 : Nat) (ca9 : Int64) (mo9 : Int64) (ht9 : t9 ≤ 400) (hb9 : b9 < 33) : Met l y_Step_goes (wsy y_Step_goes b_Step_goes 7 (some .long)) (k2_rm 1 25) (PcR D ct st [.ref (xa 0), .int (nI t9), .int (nI b9), .long ca9, .long mo9] [((xa 0), .inr (5, [.ref (xa 1), .ref (xa 2), .ref (xa 3), .ref (xa 7), .ref (xa 8), .ref (xa 13), .ref (xa 18), .long bq])), ((xa 7), .inl (ct 1, 33, .inr (.inl pa9)))]) (k2_QcV (.long (w_over (lN t9) ca9 (pa9 b9) mo9))) 0 0 (fun _ => False) := by
  refine enterR (by decide) (Nat.le_of_ble_eq_true rfl) ?_
  intro p e s m args below meth c ls hx hb hr hml hown hts hlk hP hE hV hS hl
  have hl : lv_has ls 7 [(0, .ref (xa 0)), (1, .int (nI t9)), (2, .int (nI b9)), (3, .long ca9), (5, .long mo9)] := hl
  refine lv_iload_n hx hb d_Step_goes_0 rfl (lv_at hl 1 rfl) ?_
  refine lv_i2l (v := lN t9) hx hb d_Step_goes_1 (nI_l (by omega)) ?_
  refine lv_ldc2 (v := 1000) hx hb hown (hts _ (List.mem_cons_of_mem _ x_540)) d_Step_goes_2 ?_
  refine lv_lload_n hx hb d_Step_goes_5 rfl (lv_at hl 3 rfl) ?_
  refine lv_lmul hx hb d_Step_goes_6 ?_
  refine lv_aload_n hx hb d_Step_goes_7 rfl (lv_at hl 0 rfl) ?_
  refine q_get 0 3 i_Step rfl hx hb hts hown hE hP rfl (by decide) x_247 rfl d_Step_goes_8 ?_
  refine lv_iload_n hx hb d_Step_goes_11 rfl (lv_at hl 2 rfl) ?_
  refine q_lald (k := b9) 1 hx hb hE hP rfl rfl (by omega) (by decide) d_Step_goes_12 ?_
  refine lv_lload hx hb d_Step_goes_13 (lv_at hl 4 rfl) ?_
  refine lv_lmul hx hb d_Step_goes_15 ?_
  refine lv_lsub hx hb d_Step_goes_16 ?_
  refine lv_lmul hx hb d_Step_goes_17 ?_
  refine lv_ldc2 (v := 2000000) hx hb hown (hts _ (List.mem_cons_of_mem _ x_541)) d_Step_goes_18 ?_
  refine cRS (As := [.long ((lN t9) * ((1000 * ca9) - ((pa9 b9) * mo9))), .long 2000000]) (rest := []) K_Math_floorDiv x_497 hx hb hml hown hts hE hV hS (c_Math_floorDiv l D ct st ((lN t9) * ((1000 * ca9) - ((pa9 b9) * mo9))) 2000000 (by decide)) (fun k q h => by simp at h) rfl hl.1 rfl (Nat.le_of_ble_eq_true rfl) d_Step_goes_21 (Nat.le_of_ble_eq_true rfl) (Nat.le_of_ble_eq_true rfl) ⟨Nat.zero_le _, Nat.zero_le _⟩ ?_
  exact rR_l hx hb hr hlk d_Step_goes_24 (rfl)
set_option maxHeartbeats 4000000 in
set_option maxRecDepth 100000 in
theorem c_Step_fuelWith (l : Launch) (D : va_G) (ct : Nat → ClassId) (st : Nat → Nat) (ta : Nat → Nat) (g : Nat) (ign : Int32) (part : Int32) (heat : Int32) (n : Nat) (lft : Nat) (rgt : Nat) (ns : Nat) (mM : Nat → Int64) (mP : Nat → Int64) (mE : Nat → Int64) (mF : Nat → Int64) (td : Nat → Int64) (cm : Nat → Int64) (gr : Nat → Int64) (gs : Nat → Int32) (k : Nat) (ma9 : Int64) (hk : k < 32) (hm : 1 ≤ (mM k).toInt) : Met l y_Step_fuelWith (wsy y_Step_fuelWith b_Step_fuelWith 6 (some .long)) (k2_rm 1 25) (PcR D ct st [.ref (ta 0), .int (nI k), .long ma9] [((ta 0), .inr (7, [.ref (ta 1), .int (nI n), .int (nI lft), .int (nI rgt), .int (nI ns), .ref (ta 2), .ref (ta 7), .ref (ta 8), .ref (ta 9), .ref (ta 10)])), ((ta 1), .inr (1, [.int (nI g), .int ign, .int part, .int heat])), ((ta 2), .inl (ct 4, 4, .inr (.inr (.inr (.inr (rw4 (ta 3) (ta 4) (ta 5) (ta 6))))))), ((ta 3), .inl (ct 1, 32, .inr (.inl mM))), ((ta 4), .inl (ct 1, 32, .inr (.inl mP))), ((ta 5), .inl (ct 1, 32, .inr (.inl mE))), ((ta 6), .inl (ct 1, 32, .inr (.inl mF))), ((ta 7), .inl (ct 1, 4, .inr (.inl td))), ((ta 8), .inl (ct 1, 6, .inr (.inl cm))), ((ta 9), .inl (ct 1, 32, .inr (.inl gr))), ((ta 10), .inl (ct 0, 32, .inl gs))]) (k2_QcV (.long (w_fu1 mM mF ma9 k))) 0 0 (fun _ => False) := by
  refine enterR (by decide) (Nat.le_of_ble_eq_true rfl) ?_
  intro p e s m args below meth c ls hx hb hr hml hown hts hlk hP hE hV hS hl
  have hl : lv_has ls 6 [(0, .ref (ta 0)), (1, .int (nI k)), (2, .long ma9)] := hl
  refine lv_aload_n hx hb d_Step_fuelWith_0 rfl (lv_at hl 0 rfl) ?_
  refine q_get 0 5 i_Tube rfl hx hb hts hown hE hP rfl (by decide) x_91 rfl d_Step_fuelWith_1 ?_
  refine lv_iconst (v := 3) hx hb d_Step_fuelWith_4 (by decide) ?_
  refine q_aald (k := 3) (r := (ta 6)) 2 hx hb hE hP rfl rfl (by decide) (by decide) rfl d_Step_fuelWith_5 ?_
  refine lv_iload_n hx hb d_Step_fuelWith_6 rfl (lv_at hl 1 rfl) ?_
  refine q_lald (k := k) 6 hx hb hE hP rfl rfl (by omega) (by decide) d_Step_fuelWith_7 ?_
  refine lv_lstore (lv' := [(4, .long (mF k)), (0, .ref (ta 0)), (1, .int (nI k)), (2, .long ma9)]) hx hb d_Step_fuelWith_8 hl (by decide) rfl (fun ls hl => ?_)
  refine lv_lload_n hx hb d_Step_fuelWith_10 rfl (lv_at hl 3 rfl) ?_
  refine lv_lload hx hb d_Step_fuelWith_11 (lv_at hl 0 rfl) ?_
  refine lv_lmul hx hb d_Step_fuelWith_13 ?_
  refine lv_aload_n hx hb d_Step_fuelWith_14 rfl (lv_at hl 1 rfl) ?_
  refine q_get 0 5 i_Tube rfl hx hb hts hown hE hP rfl (by decide) x_91 rfl d_Step_fuelWith_15 ?_
  refine lv_iconst (v := 0) hx hb d_Step_fuelWith_18 (by decide) ?_
  refine q_aald (k := 0) (r := (ta 3)) 2 hx hb hE hP rfl rfl (by decide) (by decide) rfl d_Step_fuelWith_19 ?_
  refine lv_iload_n hx hb d_Step_fuelWith_20 rfl (lv_at hl 2 rfl) ?_
  refine q_lald (k := k) 3 hx hb hE hP rfl rfl (by omega) (by decide) d_Step_fuelWith_21 ?_
  refine cRS (As := [.long (ma9 * (mF k)), .long (mM k)]) (rest := []) K_Math_floorDiv x_497 hx hb hml hown hts hE hV hS (c_Math_floorDiv l D ct st (ma9 * (mF k)) (mM k) (by omega)) (fun k q h => by simp at h) rfl hl.1 rfl (Nat.le_of_ble_eq_true rfl) d_Step_fuelWith_22 (Nat.le_of_ble_eq_true rfl) (Nat.le_of_ble_eq_true rfl) ⟨Nat.zero_le _, Nat.zero_le _⟩ ?_
  refine lv_lload hx hb d_Step_fuelWith_25 (lv_at hl 0 rfl) ?_
  refine va_mmin_long hx hb (by rw [hml]; exact hl.1.symm) hown (hts _ (List.mem_cons_of_mem _ x_548)) (hts _ (List.mem_cons_of_mem _ x_549)) (hts _ (List.mem_cons_of_mem _ x_13)) (hts _ (List.mem_cons_of_mem _ x_550)) (Nat.le_of_ble_eq_true rfl) (Nat.le_of_ble_eq_true rfl) (Nat.zero_le _) (Nat.zero_le _) d_Step_fuelWith_27 ?_
  refine q_topl (v := (mnL (fd (ma9 * (mF k)) (mM k)) (mF k))) rfl ?_
  exact rR_l hx hb hr hlk d_Step_fuelWith_30 (mnL_le _ _)
set_option maxHeartbeats 4000000 in
set_option maxRecDepth 100000 in
theorem c_Step_fuelGoes (l : Launch) (D : va_G) (ct : Nat → ClassId) (st : Nat → Nat) (ta : Nat → Nat) (g : Nat) (ign : Int32) (part : Int32) (heat : Int32) (n : Nat) (lft : Nat) (rgt : Nat) (ns : Nat) (mM : Nat → Int64) (mP : Nat → Int64) (mE : Nat → Int64) (mF : Nat → Int64) (td : Nat → Int64) (cm : Nat → Int64) (gr : Nat → Int64) (gs : Nat → Int32) (lf9 : Nat) (rg9 : Nat) (ma9 : Int64) (h1 : lf9 < 32) (h2 : rg9 < 32) (hm1 : 1 ≤ (mM lf9).toInt) (hm2 : 1 ≤ (mM rg9).toInt) : Met l y_Step_fuelGoes (wsy y_Step_fuelGoes b_Step_fuelGoes 5 (some .long)) (k2_rm 2 50) (PcR D ct st [.ref (ta 0), .int (nI lf9), .int (nI rg9), .long ma9] [((ta 0), .inr (7, [.ref (ta 1), .int (nI n), .int (nI lft), .int (nI rgt), .int (nI ns), .ref (ta 2), .ref (ta 7), .ref (ta 8), .ref (ta 9), .ref (ta 10)])), ((ta 1), .inr (1, [.int (nI g), .int ign, .int part, .int heat])), ((ta 2), .inl (ct 4, 4, .inr (.inr (.inr (.inr (rw4 (ta 3) (ta 4) (ta 5) (ta 6))))))), ((ta 3), .inl (ct 1, 32, .inr (.inl mM))), ((ta 4), .inl (ct 1, 32, .inr (.inl mP))), ((ta 5), .inl (ct 1, 32, .inr (.inl mE))), ((ta 6), .inl (ct 1, 32, .inr (.inl mF))), ((ta 7), .inl (ct 1, 4, .inr (.inl td))), ((ta 8), .inl (ct 1, 6, .inr (.inl cm))), ((ta 9), .inl (ct 1, 32, .inr (.inl gr))), ((ta 10), .inl (ct 0, 32, .inl gs))]) (k2_QcV (.long (w_fu mM mF ma9 lf9 rg9))) 0 0 (fun _ => False) := by
  refine enterR (by decide) (Nat.le_of_ble_eq_true rfl) ?_
  intro p e s m args below meth c ls hx hb hr hml hown hts hlk hP hE hV hS hl
  have hl : lv_has ls 5 [(0, .ref (ta 0)), (1, .int (nI lf9)), (2, .int (nI rg9)), (3, .long ma9)] := hl
  refine lv_lload_n hx hb d_Step_fuelGoes_0 rfl (lv_at hl 3 rfl) ?_
  refine lv_lconst (v := 0) hx hb d_Step_fuelGoes_1 (by decide) ?_
  refine W.lcmp hx hb d_Step_fuelGoes_2 ?_
  refine q_cmp_le (tgt := 13) hx hb d_Step_fuelGoes_3 (by decide) (fun h_3 => ?_) (fun h_3 => ?_)
  · refine lv_aload_n hx hb d_Step_fuelGoes_13 rfl (lv_at hl 0 rfl) ?_
    refine lv_iload_n hx hb d_Step_fuelGoes_14 rfl (lv_at hl 2 rfl) ?_
    refine lv_lload_n hx hb d_Step_fuelGoes_15 rfl (lv_at hl 3 rfl) ?_
    refine lv_lneg hx hb d_Step_fuelGoes_16 ?_
    refine cRS (As := [.ref (ta 0), .int (nI rg9), .long (-ma9)]) (rest := []) K_Step_fuelWith x_545 hx hb hml hown hts hE hV hS (c_Step_fuelWith l D ct st ta g ign part heat n lft rgt ns mM mP mE mF td cm gr gs rg9 (-ma9) (by omega) (by omega)) hP rfl hl.1 rfl (Nat.le_of_ble_eq_true rfl) d_Step_fuelGoes_17 (Nat.le_of_ble_eq_true rfl) (Nat.le_of_ble_eq_true rfl) ⟨Nat.zero_le _, Nat.zero_le _⟩ ?_
    refine lv_lneg hx hb d_Step_fuelGoes_20 ?_
    exact rR_l hx hb hr hlk d_Step_fuelGoes_21 (fg_r h_3)
  · refine lv_aload_n hx hb d_Step_fuelGoes_6 rfl (lv_at hl 0 rfl) ?_
    refine lv_iload_n hx hb d_Step_fuelGoes_7 rfl (lv_at hl 1 rfl) ?_
    refine lv_lload_n hx hb d_Step_fuelGoes_8 rfl (lv_at hl 3 rfl) ?_
    refine cRS (As := [.ref (ta 0), .int (nI lf9), .long ma9]) (rest := []) K_Step_fuelWith x_545 hx hb hml hown hts hE hV hS (c_Step_fuelWith l D ct st ta g ign part heat n lft rgt ns mM mP mE mF td cm gr gs lf9 ma9 (by omega) (by omega)) hP rfl hl.1 rfl (Nat.le_of_ble_eq_true rfl) d_Step_fuelGoes_9 (Nat.le_of_ble_eq_true rfl) (Nat.le_of_ble_eq_true rfl) ⟨Nat.zero_le _, Nat.zero_le _⟩ ?_
    exact rR_l hx hb hr hlk d_Step_fuelGoes_12 (fg_l h_3)
set_option maxHeartbeats 4000000 in
set_option maxRecDepth 100000 in
theorem c_Step_findWall (l : Launch) (D : va_G) (ct : Nat → ClassId) (st : Nat → Nat) (ta : Nat → Nat) (g : Nat) (ign : Int32) (part : Int32) (heat : Int32) (n : Nat) (lft : Nat) (rgt : Nat) (ns : Nat) (mM : Nat → Int64) (mP : Nat → Int64) (mE : Nat → Int64) (mF : Nat → Int64) (td : Nat → Int64) (cm : Nat → Int64) (gr : Nat → Int64) (gs : Nat → Int32) (xa : Nat → Nat) (bq : Int64) (k0 : Nat → Int64) (k1 : Nat → Int64) (k2 : Nat → Int64) (pa9 : Nat → Int64) (o0 : Nat → Int64) (o1 : Nat → Int64) (o2 : Nat → Int64) (o3 : Nat → Int64) (b9 : Nat) (t9 : Nat) (hn2 : 2 ≤ n) (hn : n ≤ 32) (hb9 : b9 ≤ n) (ht9 : t9 ≤ 400) (sz : Nat) : Met l y_Step_findWall (wsy y_Step_findWall b_Step_findWall 7 (none)) (rmW 2 0 0 51) (PcW D ct st [.ref (xa 0), .ref (ta 0), .int (nI b9), .int (nI t9)] [((ta 0), .inr (7, [.ref (ta 1), .int (nI n), .int (nI lft), .int (nI rgt), .int (nI ns), .ref (ta 2), .ref (ta 7), .ref (ta 8), .ref (ta 9), .ref (ta 10)])), ((ta 1), .inr (1, [.int (nI g), .int ign, .int part, .int heat])), ((ta 2), .inl (ct 4, 4, .inr (.inr (.inr (.inr (rw4 (ta 3) (ta 4) (ta 5) (ta 6))))))), ((ta 3), .inl (ct 1, 32, .inr (.inl mM))), ((ta 4), .inl (ct 1, 32, .inr (.inl mP))), ((ta 5), .inl (ct 1, 32, .inr (.inl mE))), ((ta 6), .inl (ct 1, 32, .inr (.inl mF))), ((ta 7), .inl (ct 1, 4, .inr (.inl td))), ((ta 8), .inl (ct 1, 6, .inr (.inl cm))), ((ta 9), .inl (ct 1, 32, .inr (.inl gr))), ((ta 10), .inl (ct 0, 32, .inl gs)), ((xa 0), .inr (5, [.ref (xa 1), .ref (xa 2), .ref (xa 3), .ref (xa 7), .ref (xa 8), .ref (xa 13), .ref (xa 18), .long bq])), ((xa 3), .inl (ct 4, 3, .inr (.inr (.inr (.inr (rw3 (xa 4) (xa 5) (xa 6))))))), ((xa 4), .inl (ct 1, 32, .inr (.inl k0))), ((xa 5), .inl (ct 1, 32, .inr (.inl k1))), ((xa 6), .inl (ct 1, 32, .inr (.inl k2))), ((xa 7), .inl (ct 1, 33, .inr (.inl pa9))), ((xa 8), .inl (ct 4, 4, .inr (.inr (.inr (.inr (rw4 (xa 9) (xa 10) (xa 11) (xa 12))))))), ((xa 9), .inl (ct 1, 33, .inr (.inl o0))), ((xa 10), .inl (ct 1, 33, .inr (.inl o1))), ((xa 11), .inl (ct 1, 33, .inr (.inl o2))), ((xa 12), .inl (ct 1, 33, .inr (.inl o3)))] sz) (QcW D [((ta 0), .inr (7, [.ref (ta 1), .int (nI n), .int (nI lft), .int (nI rgt), .int (nI ns), .ref (ta 2), .ref (ta 7), .ref (ta 8), .ref (ta 9), .ref (ta 10)])), ((ta 1), .inr (1, [.int (nI g), .int ign, .int part, .int heat])), ((ta 2), .inl (ct 4, 4, .inr (.inr (.inr (.inr (rw4 (ta 3) (ta 4) (ta 5) (ta 6))))))), ((ta 3), .inl (ct 1, 32, .inr (.inl mM))), ((ta 4), .inl (ct 1, 32, .inr (.inl mP))), ((ta 5), .inl (ct 1, 32, .inr (.inl mE))), ((ta 6), .inl (ct 1, 32, .inr (.inl mF))), ((ta 7), .inl (ct 1, 4, .inr (.inl td))), ((ta 8), .inl (ct 1, 6, .inr (.inl cm))), ((ta 9), .inl (ct 1, 32, .inr (.inl gr))), ((ta 10), .inl (ct 0, 32, .inl gs)), ((xa 0), .inr (5, [.ref (xa 1), .ref (xa 2), .ref (xa 3), .ref (xa 7), .ref (xa 8), .ref (xa 13), .ref (xa 18), .long bq])), ((xa 3), .inl (ct 4, 3, .inr (.inr (.inr (.inr (rw3 (xa 4) (xa 5) (xa 6))))))), ((xa 4), .inl (ct 1, 32, .inr (.inl k0))), ((xa 5), .inl (ct 1, 32, .inr (.inl k1))), ((xa 6), .inl (ct 1, 32, .inr (.inl k2))), ((xa 7), .inl (ct 1, 33, .inr (.inl pa9))), ((xa 8), .inl (ct 4, 4, .inr (.inr (.inr (.inr (rw4 (xa 9) (xa 10) (xa 11) (xa 12))))))), ((xa 9), .inl (ct 1, 33, .inr (.inl o0))), ((xa 10), .inl (ct 1, 33, .inr (.inl o1))), ((xa 11), .inl (ct 1, 33, .inr (.inl o2))), ((xa 12), .inl (ct 1, 33, .inr (.inl o3)))] sz (fun v W1 => ∃ (o01 : Nat → Int64) (o11 : Nat → Int64) (o21 : Nat → Int64) (o31 : Nat → Int64), v = none ∧ W1 = [((ta 0), .inr (7, [.ref (ta 1), .int (nI n), .int (nI lft), .int (nI rgt), .int (nI ns), .ref (ta 2), .ref (ta 7), .ref (ta 8), .ref (ta 9), .ref (ta 10)])), ((ta 1), .inr (1, [.int (nI g), .int ign, .int part, .int heat])), ((ta 2), .inl (ct 4, 4, .inr (.inr (.inr (.inr (rw4 (ta 3) (ta 4) (ta 5) (ta 6))))))), ((ta 3), .inl (ct 1, 32, .inr (.inl mM))), ((ta 4), .inl (ct 1, 32, .inr (.inl mP))), ((ta 5), .inl (ct 1, 32, .inr (.inl mE))), ((ta 6), .inl (ct 1, 32, .inr (.inl mF))), ((ta 7), .inl (ct 1, 4, .inr (.inl td))), ((ta 8), .inl (ct 1, 6, .inr (.inl cm))), ((ta 9), .inl (ct 1, 32, .inr (.inl gr))), ((ta 10), .inl (ct 0, 32, .inl gs)), ((xa 0), .inr (5, [.ref (xa 1), .ref (xa 2), .ref (xa 3), .ref (xa 7), .ref (xa 8), .ref (xa 13), .ref (xa 18), .long bq])), ((xa 3), .inl (ct 4, 3, .inr (.inr (.inr (.inr (rw3 (xa 4) (xa 5) (xa 6))))))), ((xa 4), .inl (ct 1, 32, .inr (.inl k0))), ((xa 5), .inl (ct 1, 32, .inr (.inl k1))), ((xa 6), .inl (ct 1, 32, .inr (.inl k2))), ((xa 7), .inl (ct 1, 33, .inr (.inl pa9))), ((xa 8), .inl (ct 4, 4, .inr (.inr (.inr (.inr (rw4 (xa 9) (xa 10) (xa 11) (xa 12))))))), ((xa 9), .inl (ct 1, 33, .inr (.inl o01))), ((xa 10), .inl (ct 1, 33, .inr (.inl o11))), ((xa 11), .inl (ct 1, 33, .inr (.inl o21))), ((xa 12), .inl (ct 1, 33, .inr (.inl o31)))] ∧ (o01 = vp_updL o0 b9 0 ∧ o11 = vp_updL o1 b9 (w_over (lN t9) (2 * k1 (w_lf b9)) (pa9 b9) (if b9 = 0 then 2 * mP (w_lf b9) else -(2 * mP (w_lf b9)))) ∧ o21 = vp_updL o2 b9 0 ∧ o31 = vp_updL o3 b9 0))) 0 0 (va_A [((ta 0), .inr (7, [.ref (ta 1), .int (nI n), .int (nI lft), .int (nI rgt), .int (nI ns), .ref (ta 2), .ref (ta 7), .ref (ta 8), .ref (ta 9), .ref (ta 10)])), ((ta 1), .inr (1, [.int (nI g), .int ign, .int part, .int heat])), ((ta 2), .inl (ct 4, 4, .inr (.inr (.inr (.inr (rw4 (ta 3) (ta 4) (ta 5) (ta 6))))))), ((ta 3), .inl (ct 1, 32, .inr (.inl mM))), ((ta 4), .inl (ct 1, 32, .inr (.inl mP))), ((ta 5), .inl (ct 1, 32, .inr (.inl mE))), ((ta 6), .inl (ct 1, 32, .inr (.inl mF))), ((ta 7), .inl (ct 1, 4, .inr (.inl td))), ((ta 8), .inl (ct 1, 6, .inr (.inl cm))), ((ta 9), .inl (ct 1, 32, .inr (.inl gr))), ((ta 10), .inl (ct 0, 32, .inl gs)), ((xa 0), .inr (5, [.ref (xa 1), .ref (xa 2), .ref (xa 3), .ref (xa 7), .ref (xa 8), .ref (xa 13), .ref (xa 18), .long bq])), ((xa 3), .inl (ct 4, 3, .inr (.inr (.inr (.inr (rw3 (xa 4) (xa 5) (xa 6))))))), ((xa 4), .inl (ct 1, 32, .inr (.inl k0))), ((xa 5), .inl (ct 1, 32, .inr (.inl k1))), ((xa 6), .inl (ct 1, 32, .inr (.inl k2))), ((xa 7), .inl (ct 1, 33, .inr (.inl pa9))), ((xa 8), .inl (ct 4, 4, .inr (.inr (.inr (.inr (rw4 (xa 9) (xa 10) (xa 11) (xa 12))))))), ((xa 9), .inl (ct 1, 33, .inr (.inl o0))), ((xa 10), .inl (ct 1, 33, .inr (.inl o1))), ((xa 11), .inl (ct 1, 33, .inr (.inl o2))), ((xa 12), .inl (ct 1, 33, .inr (.inl o3)))] sz) := by
  refine enterW (by decide) (Nat.le_of_ble_eq_true rfl) ?_
  intro p e s m args below meth c ls A hx hb hr hml hown hts hlk hin hsz hAe hP hD hA hE hV hS hl
  have hl : lv_has ls 7 [(0, .ref (xa 0)), (1, .ref (ta 0)), (2, .int (nI b9)), (3, .int (nI t9))] := hl
  have h1 := lf_lt (n := n) hn2 hb9
  refine lv_iload_n hx hb d_Step_findWall_0 rfl (lv_at hl 2 rfl) ?_
  refine cRS (As := [.int (nI b9)]) (rest := []) K_Step_leftOf x_506 hx hb hml hown hts hE hV hS (c_Step_leftOf l D ct st b9 (by omega)) (fun k q h => by simp at h) rfl hl.1 rfl (Nat.le_of_ble_eq_true rfl) d_Step_findWall_1 (Nat.le_of_ble_eq_true rfl) (Nat.le_of_ble_eq_true rfl) ⟨Nat.le_of_ble_eq_true rfl, Nat.le_of_ble_eq_true rfl⟩ ?_
  refine lv_istore (lv' := [(4, .int (nI (w_lf b9))), (0, .ref (xa 0)), (1, .ref (ta 0)), (2, .int (nI b9)), (3, .int (nI t9))]) hx hb d_Step_findWall_4 hl (by decide) rfl (fun ls hl => ?_)
  refine lv_ldc2 (v := 2) hx hb hown (hts _ (List.mem_cons_of_mem _ x_535)) d_Step_findWall_6 ?_
  refine lv_aload_n hx hb d_Step_findWall_9 rfl (lv_at hl 2 rfl) ?_
  refine q_get 0 5 i_Tube rfl hx hb hts hown hE hP rfl (by decide) x_91 rfl d_Step_findWall_10 ?_
  refine lv_iconst (v := 1) hx hb d_Step_findWall_13 (by decide) ?_
  refine q_aald (k := 1) (r := (ta 4)) 2 hx hb hE hP rfl rfl (by decide) (by decide) rfl d_Step_findWall_14 ?_
  refine lv_iload hx hb d_Step_findWall_15 (lv_at hl 0 rfl) ?_
  refine q_lald (k := (w_lf b9)) 4 hx hb hE hP rfl rfl (by omega) (by decide) d_Step_findWall_17 ?_
  refine lv_lmul hx hb d_Step_findWall_18 ?_
  refine lv_lstore (lv' := [(5, .long (2 * (mP (w_lf b9)))), (4, .int (nI (w_lf b9))), (0, .ref (xa 0)), (1, .ref (ta 0)), (2, .int (nI b9)), (3, .int (nI t9))]) hx hb d_Step_findWall_19 hl (by decide) rfl (fun ls hl => ?_)
  refine lv_aload_n hx hb d_Step_findWall_21 rfl (lv_at hl 2 rfl) ?_
  refine q_get 11 4 i_Step rfl hx hb hts hown hE hP rfl (by decide) x_248 rfl d_Step_findWall_22 ?_
  refine lv_iconst (v := 0) hx hb d_Step_findWall_25 (by decide) ?_
  refine q_aald (k := 0) (r := (xa 9)) 17 hx hb hE hP rfl rfl (by decide) (by decide) rfl d_Step_findWall_26 ?_
  refine lv_iload_n hx hb d_Step_findWall_27 rfl (lv_at hl 4 rfl) ?_
  refine lv_lconst (v := 0) hx hb d_Step_findWall_28 (by decide) ?_
  obtain ⟨o0_1, eo0_1⟩ : ∃ g9 : Nat → Int64, g9 = vp_updL o0 b9 0 := ⟨_, rfl⟩
  refine q_last (k := b9) 18 (ws1 := [((ta 0), .inr (7, [.ref (ta 1), .int (nI n), .int (nI lft), .int (nI rgt), .int (nI ns), .ref (ta 2), .ref (ta 7), .ref (ta 8), .ref (ta 9), .ref (ta 10)])), ((ta 1), .inr (1, [.int (nI g), .int ign, .int part, .int heat])), ((ta 2), .inl (ct 4, 4, .inr (.inr (.inr (.inr (rw4 (ta 3) (ta 4) (ta 5) (ta 6))))))), ((ta 3), .inl (ct 1, 32, .inr (.inl mM))), ((ta 4), .inl (ct 1, 32, .inr (.inl mP))), ((ta 5), .inl (ct 1, 32, .inr (.inl mE))), ((ta 6), .inl (ct 1, 32, .inr (.inl mF))), ((ta 7), .inl (ct 1, 4, .inr (.inl td))), ((ta 8), .inl (ct 1, 6, .inr (.inl cm))), ((ta 9), .inl (ct 1, 32, .inr (.inl gr))), ((ta 10), .inl (ct 0, 32, .inl gs)), ((xa 0), .inr (5, [.ref (xa 1), .ref (xa 2), .ref (xa 3), .ref (xa 7), .ref (xa 8), .ref (xa 13), .ref (xa 18), .long bq])), ((xa 3), .inl (ct 4, 3, .inr (.inr (.inr (.inr (rw3 (xa 4) (xa 5) (xa 6))))))), ((xa 4), .inl (ct 1, 32, .inr (.inl k0))), ((xa 5), .inl (ct 1, 32, .inr (.inl k1))), ((xa 6), .inl (ct 1, 32, .inr (.inl k2))), ((xa 7), .inl (ct 1, 33, .inr (.inl pa9))), ((xa 8), .inl (ct 4, 4, .inr (.inr (.inr (.inr (rw4 (xa 9) (xa 10) (xa 11) (xa 12))))))), ((xa 9), .inl (ct 1, 33, .inr (.inl o0_1))), ((xa 10), .inl (ct 1, 33, .inr (.inl o1))), ((xa 11), .inl (ct 1, 33, .inr (.inl o2))), ((xa 12), .inl (ct 1, 33, .inr (.inl o3)))]) eo0_1 hx hb hE hP hD hS rfl rfl (by omega) (by decide) rfl d_Step_findWall_29 (fun H locs hP hD hS => ?_)
  refine lv_aload_n hx hb d_Step_findWall_30 rfl (lv_at hl 2 rfl) ?_
  refine q_get 11 4 i_Step rfl hx hb hts hown hE hP rfl (by decide) x_248 rfl d_Step_findWall_31 ?_
  refine lv_iconst (v := 2) hx hb d_Step_findWall_34 (by decide) ?_
  refine q_aald (k := 2) (r := (xa 11)) 17 hx hb hE hP rfl rfl (by decide) (by decide) rfl d_Step_findWall_35 ?_
  refine lv_iload_n hx hb d_Step_findWall_36 rfl (lv_at hl 4 rfl) ?_
  refine lv_lconst (v := 0) hx hb d_Step_findWall_37 (by decide) ?_
  obtain ⟨o2_1, eo2_1⟩ : ∃ g9 : Nat → Int64, g9 = vp_updL o2 b9 0 := ⟨_, rfl⟩
  refine q_last (k := b9) 20 (ws1 := [((ta 0), .inr (7, [.ref (ta 1), .int (nI n), .int (nI lft), .int (nI rgt), .int (nI ns), .ref (ta 2), .ref (ta 7), .ref (ta 8), .ref (ta 9), .ref (ta 10)])), ((ta 1), .inr (1, [.int (nI g), .int ign, .int part, .int heat])), ((ta 2), .inl (ct 4, 4, .inr (.inr (.inr (.inr (rw4 (ta 3) (ta 4) (ta 5) (ta 6))))))), ((ta 3), .inl (ct 1, 32, .inr (.inl mM))), ((ta 4), .inl (ct 1, 32, .inr (.inl mP))), ((ta 5), .inl (ct 1, 32, .inr (.inl mE))), ((ta 6), .inl (ct 1, 32, .inr (.inl mF))), ((ta 7), .inl (ct 1, 4, .inr (.inl td))), ((ta 8), .inl (ct 1, 6, .inr (.inl cm))), ((ta 9), .inl (ct 1, 32, .inr (.inl gr))), ((ta 10), .inl (ct 0, 32, .inl gs)), ((xa 0), .inr (5, [.ref (xa 1), .ref (xa 2), .ref (xa 3), .ref (xa 7), .ref (xa 8), .ref (xa 13), .ref (xa 18), .long bq])), ((xa 3), .inl (ct 4, 3, .inr (.inr (.inr (.inr (rw3 (xa 4) (xa 5) (xa 6))))))), ((xa 4), .inl (ct 1, 32, .inr (.inl k0))), ((xa 5), .inl (ct 1, 32, .inr (.inl k1))), ((xa 6), .inl (ct 1, 32, .inr (.inl k2))), ((xa 7), .inl (ct 1, 33, .inr (.inl pa9))), ((xa 8), .inl (ct 4, 4, .inr (.inr (.inr (.inr (rw4 (xa 9) (xa 10) (xa 11) (xa 12))))))), ((xa 9), .inl (ct 1, 33, .inr (.inl o0_1))), ((xa 10), .inl (ct 1, 33, .inr (.inl o1))), ((xa 11), .inl (ct 1, 33, .inr (.inl o2_1))), ((xa 12), .inl (ct 1, 33, .inr (.inl o3)))]) eo2_1 hx hb hE hP hD hS rfl rfl (by omega) (by decide) rfl d_Step_findWall_38 (fun H locs hP hD hS => ?_)
  refine lv_aload_n hx hb d_Step_findWall_39 rfl (lv_at hl 2 rfl) ?_
  refine q_get 11 4 i_Step rfl hx hb hts hown hE hP rfl (by decide) x_248 rfl d_Step_findWall_40 ?_
  refine lv_iconst (v := 3) hx hb d_Step_findWall_43 (by decide) ?_
  refine q_aald (k := 3) (r := (xa 12)) 17 hx hb hE hP rfl rfl (by decide) (by decide) rfl d_Step_findWall_44 ?_
  refine lv_iload_n hx hb d_Step_findWall_45 rfl (lv_at hl 4 rfl) ?_
  refine lv_lconst (v := 0) hx hb d_Step_findWall_46 (by decide) ?_
  obtain ⟨o3_1, eo3_1⟩ : ∃ g9 : Nat → Int64, g9 = vp_updL o3 b9 0 := ⟨_, rfl⟩
  refine q_last (k := b9) 21 (ws1 := [((ta 0), .inr (7, [.ref (ta 1), .int (nI n), .int (nI lft), .int (nI rgt), .int (nI ns), .ref (ta 2), .ref (ta 7), .ref (ta 8), .ref (ta 9), .ref (ta 10)])), ((ta 1), .inr (1, [.int (nI g), .int ign, .int part, .int heat])), ((ta 2), .inl (ct 4, 4, .inr (.inr (.inr (.inr (rw4 (ta 3) (ta 4) (ta 5) (ta 6))))))), ((ta 3), .inl (ct 1, 32, .inr (.inl mM))), ((ta 4), .inl (ct 1, 32, .inr (.inl mP))), ((ta 5), .inl (ct 1, 32, .inr (.inl mE))), ((ta 6), .inl (ct 1, 32, .inr (.inl mF))), ((ta 7), .inl (ct 1, 4, .inr (.inl td))), ((ta 8), .inl (ct 1, 6, .inr (.inl cm))), ((ta 9), .inl (ct 1, 32, .inr (.inl gr))), ((ta 10), .inl (ct 0, 32, .inl gs)), ((xa 0), .inr (5, [.ref (xa 1), .ref (xa 2), .ref (xa 3), .ref (xa 7), .ref (xa 8), .ref (xa 13), .ref (xa 18), .long bq])), ((xa 3), .inl (ct 4, 3, .inr (.inr (.inr (.inr (rw3 (xa 4) (xa 5) (xa 6))))))), ((xa 4), .inl (ct 1, 32, .inr (.inl k0))), ((xa 5), .inl (ct 1, 32, .inr (.inl k1))), ((xa 6), .inl (ct 1, 32, .inr (.inl k2))), ((xa 7), .inl (ct 1, 33, .inr (.inl pa9))), ((xa 8), .inl (ct 4, 4, .inr (.inr (.inr (.inr (rw4 (xa 9) (xa 10) (xa 11) (xa 12))))))), ((xa 9), .inl (ct 1, 33, .inr (.inl o0_1))), ((xa 10), .inl (ct 1, 33, .inr (.inl o1))), ((xa 11), .inl (ct 1, 33, .inr (.inl o2_1))), ((xa 12), .inl (ct 1, 33, .inr (.inl o3_1)))]) eo3_1 hx hb hE hP hD hS rfl rfl (by omega) (by decide) rfl d_Step_findWall_47 (fun H locs hP hD hS => ?_)
  refine lv_aload_n hx hb d_Step_findWall_48 rfl (lv_at hl 2 rfl) ?_
  refine q_get 11 4 i_Step rfl hx hb hts hown hE hP rfl (by decide) x_248 rfl d_Step_findWall_49 ?_
  refine lv_iconst (v := 1) hx hb d_Step_findWall_52 (by decide) ?_
  refine q_aald (k := 1) (r := (xa 10)) 17 hx hb hE hP rfl rfl (by decide) (by decide) rfl d_Step_findWall_53 ?_
  refine lv_iload_n hx hb d_Step_findWall_54 rfl (lv_at hl 4 rfl) ?_
  refine lv_aload_n hx hb d_Step_findWall_55 rfl (lv_at hl 2 rfl) ?_
  refine lv_iload_n hx hb d_Step_findWall_56 rfl (lv_at hl 5 rfl) ?_
  refine lv_iload_n hx hb d_Step_findWall_57 rfl (lv_at hl 4 rfl) ?_
  refine lv_ldc2 (v := 2) hx hb hown (hts _ (List.mem_cons_of_mem _ x_535)) d_Step_findWall_58 ?_
  refine lv_aload_n hx hb d_Step_findWall_61 rfl (lv_at hl 2 rfl) ?_
  refine q_get 11 2 i_Step rfl hx hb hts hown hE hP rfl (by decide) x_246 rfl d_Step_findWall_62 ?_
  refine lv_iconst (v := 1) hx hb d_Step_findWall_65 (by decide) ?_
  refine q_aald (k := 1) (r := (xa 5)) 12 hx hb hE hP rfl rfl (by decide) (by decide) rfl d_Step_findWall_66 ?_
  refine lv_iload hx hb d_Step_findWall_67 (lv_at hl 1 rfl) ?_
  refine q_lald (k := (w_lf b9)) 14 hx hb hE hP rfl rfl (by omega) (by decide) d_Step_findWall_69 ?_
  refine lv_lmul hx hb d_Step_findWall_70 ?_
  refine lv_iload_n hx hb d_Step_findWall_71 rfl (lv_at hl 4 rfl) ?_
  refine q_if_ne_n (a := b9) (tgt := 80) hx hb d_Step_findWall_72 (by decide) rfl (by omega) (fun h_72 => ?_) (fun h_72 => ?_)
  · refine lv_lload hx hb d_Step_findWall_80 (lv_at hl 0 rfl) ?_
    refine lv_lneg hx hb d_Step_findWall_82 ?_
    refine cRV (As := [.int (nI t9), .int (nI b9), .long (2 * (k1 (w_lf b9))), .long (-(2 * (mP (w_lf b9))))]) (rest := [.int (nI b9), .ref (xa 10)]) (q9 := 11) (ci := 5) K_Step_goes x_536 hx hb hml hown hts hE hV hS (c_Step_goes l D ct st xa bq pa9 t9 b9 (2 * (k1 (w_lf b9))) (-(2 * (mP (w_lf b9)))) (by omega) (by omega)) (hP.sub (ws' := [((xa 0), .inr (5, [.ref (xa 1), .ref (xa 2), .ref (xa 3), .ref (xa 7), .ref (xa 8), .ref (xa 13), .ref (xa 18), .long bq])), ((xa 7), .inl (ct 1, 33, .inr (.inl pa9)))]) [11, 16] rfl) rfl hP rfl rfl hl.1 rfl (Nat.le_of_ble_eq_true rfl) d_Step_findWall_83 (Nat.le_of_ble_eq_true rfl) (Nat.le_of_ble_eq_true rfl) ⟨Nat.le_of_ble_eq_true rfl, Nat.le_of_ble_eq_true rfl⟩ ?_
    obtain ⟨o1_1, eo1_1⟩ : ∃ g9 : Nat → Int64, g9 = vp_updL o1 b9 (w_over (lN t9) (2 * (k1 (w_lf b9))) (pa9 b9) (-(2 * (mP (w_lf b9))))) := ⟨_, rfl⟩
    refine q_last (k := b9) 19 (ws1 := [((ta 0), .inr (7, [.ref (ta 1), .int (nI n), .int (nI lft), .int (nI rgt), .int (nI ns), .ref (ta 2), .ref (ta 7), .ref (ta 8), .ref (ta 9), .ref (ta 10)])), ((ta 1), .inr (1, [.int (nI g), .int ign, .int part, .int heat])), ((ta 2), .inl (ct 4, 4, .inr (.inr (.inr (.inr (rw4 (ta 3) (ta 4) (ta 5) (ta 6))))))), ((ta 3), .inl (ct 1, 32, .inr (.inl mM))), ((ta 4), .inl (ct 1, 32, .inr (.inl mP))), ((ta 5), .inl (ct 1, 32, .inr (.inl mE))), ((ta 6), .inl (ct 1, 32, .inr (.inl mF))), ((ta 7), .inl (ct 1, 4, .inr (.inl td))), ((ta 8), .inl (ct 1, 6, .inr (.inl cm))), ((ta 9), .inl (ct 1, 32, .inr (.inl gr))), ((ta 10), .inl (ct 0, 32, .inl gs)), ((xa 0), .inr (5, [.ref (xa 1), .ref (xa 2), .ref (xa 3), .ref (xa 7), .ref (xa 8), .ref (xa 13), .ref (xa 18), .long bq])), ((xa 3), .inl (ct 4, 3, .inr (.inr (.inr (.inr (rw3 (xa 4) (xa 5) (xa 6))))))), ((xa 4), .inl (ct 1, 32, .inr (.inl k0))), ((xa 5), .inl (ct 1, 32, .inr (.inl k1))), ((xa 6), .inl (ct 1, 32, .inr (.inl k2))), ((xa 7), .inl (ct 1, 33, .inr (.inl pa9))), ((xa 8), .inl (ct 4, 4, .inr (.inr (.inr (.inr (rw4 (xa 9) (xa 10) (xa 11) (xa 12))))))), ((xa 9), .inl (ct 1, 33, .inr (.inl o0_1))), ((xa 10), .inl (ct 1, 33, .inr (.inl o1_1))), ((xa 11), .inl (ct 1, 33, .inr (.inl o2_1))), ((xa 12), .inl (ct 1, 33, .inr (.inl o3_1)))]) eo1_1 hx hb hE hP hD hS rfl rfl (by omega) (by decide) rfl d_Step_findWall_86 (fun H locs hP hD hS => ?_)
    exact rW_v hx hb hr hlk hAe hS hP hD (Nat.le_of_ble_eq_true rfl) (Nat.le_of_ble_eq_true rfl) d_Step_findWall_87 ⟨o0_1, o1_1, o2_1, o3_1, rfl, rfl, ⟨eo0_1, by rw [eo1_1]; first | rw [if_pos h_72] | rw [if_neg h_72], eo2_1, eo3_1⟩⟩
  · refine lv_lload hx hb d_Step_findWall_75 (lv_at hl 0 rfl) ?_
    refine lv_goto (tgt := 83) hx hb d_Step_findWall_77 (by decide) ?_
    refine cRV (As := [.int (nI t9), .int (nI b9), .long (2 * (k1 (w_lf b9))), .long (2 * (mP (w_lf b9)))]) (rest := [.int (nI b9), .ref (xa 10)]) (q9 := 11) (ci := 5) K_Step_goes x_536 hx hb hml hown hts hE hV hS (c_Step_goes l D ct st xa bq pa9 t9 b9 (2 * (k1 (w_lf b9))) (2 * (mP (w_lf b9))) (by omega) (by omega)) (hP.sub (ws' := [((xa 0), .inr (5, [.ref (xa 1), .ref (xa 2), .ref (xa 3), .ref (xa 7), .ref (xa 8), .ref (xa 13), .ref (xa 18), .long bq])), ((xa 7), .inl (ct 1, 33, .inr (.inl pa9)))]) [11, 16] rfl) rfl hP rfl rfl hl.1 rfl (Nat.le_of_ble_eq_true rfl) d_Step_findWall_83 (Nat.le_of_ble_eq_true rfl) (Nat.le_of_ble_eq_true rfl) ⟨Nat.le_of_ble_eq_true rfl, Nat.le_of_ble_eq_true rfl⟩ ?_
    obtain ⟨o1_2, eo1_2⟩ : ∃ g9 : Nat → Int64, g9 = vp_updL o1 b9 (w_over (lN t9) (2 * (k1 (w_lf b9))) (pa9 b9) (2 * (mP (w_lf b9)))) := ⟨_, rfl⟩
    refine q_last (k := b9) 19 (ws1 := [((ta 0), .inr (7, [.ref (ta 1), .int (nI n), .int (nI lft), .int (nI rgt), .int (nI ns), .ref (ta 2), .ref (ta 7), .ref (ta 8), .ref (ta 9), .ref (ta 10)])), ((ta 1), .inr (1, [.int (nI g), .int ign, .int part, .int heat])), ((ta 2), .inl (ct 4, 4, .inr (.inr (.inr (.inr (rw4 (ta 3) (ta 4) (ta 5) (ta 6))))))), ((ta 3), .inl (ct 1, 32, .inr (.inl mM))), ((ta 4), .inl (ct 1, 32, .inr (.inl mP))), ((ta 5), .inl (ct 1, 32, .inr (.inl mE))), ((ta 6), .inl (ct 1, 32, .inr (.inl mF))), ((ta 7), .inl (ct 1, 4, .inr (.inl td))), ((ta 8), .inl (ct 1, 6, .inr (.inl cm))), ((ta 9), .inl (ct 1, 32, .inr (.inl gr))), ((ta 10), .inl (ct 0, 32, .inl gs)), ((xa 0), .inr (5, [.ref (xa 1), .ref (xa 2), .ref (xa 3), .ref (xa 7), .ref (xa 8), .ref (xa 13), .ref (xa 18), .long bq])), ((xa 3), .inl (ct 4, 3, .inr (.inr (.inr (.inr (rw3 (xa 4) (xa 5) (xa 6))))))), ((xa 4), .inl (ct 1, 32, .inr (.inl k0))), ((xa 5), .inl (ct 1, 32, .inr (.inl k1))), ((xa 6), .inl (ct 1, 32, .inr (.inl k2))), ((xa 7), .inl (ct 1, 33, .inr (.inl pa9))), ((xa 8), .inl (ct 4, 4, .inr (.inr (.inr (.inr (rw4 (xa 9) (xa 10) (xa 11) (xa 12))))))), ((xa 9), .inl (ct 1, 33, .inr (.inl o0_1))), ((xa 10), .inl (ct 1, 33, .inr (.inl o1_2))), ((xa 11), .inl (ct 1, 33, .inr (.inl o2_1))), ((xa 12), .inl (ct 1, 33, .inr (.inl o3_1)))]) eo1_2 hx hb hE hP hD hS rfl rfl (by omega) (by decide) rfl d_Step_findWall_86 (fun H locs hP hD hS => ?_)
    exact rW_v hx hb hr hlk hAe hS hP hD (Nat.le_of_ble_eq_true rfl) (Nat.le_of_ble_eq_true rfl) d_Step_findWall_87 ⟨o0_1, o1_2, o2_1, o3_1, rfl, rfl, ⟨eo0_1, by rw [eo1_2]; first | rw [if_pos h_72] | rw [if_neg h_72], eo2_1, eo3_1⟩⟩
set_option maxHeartbeats 4000000 in
set_option maxRecDepth 100000 in
theorem c_Step_findBorder (l : Launch) (D : va_G) (ct : Nat → ClassId) (st : Nat → Nat) (ta : Nat → Nat) (g : Nat) (ign : Int32) (part : Int32) (heat : Int32) (n : Nat) (lft : Nat) (rgt : Nat) (ns : Nat) (mM : Nat → Int64) (mP : Nat → Int64) (mE : Nat → Int64) (mF : Nat → Int64) (td : Nat → Int64) (cm : Nat → Int64) (gr : Nat → Int64) (gs : Nat → Int32) (xa : Nat → Nat) (bq : Int64) (vs : Nat → Int64) (vo : Nat → Int64) (k0 : Nat → Int64) (k1 : Nat → Int64) (k2 : Nat → Int64) (pa9 : Nat → Int64) (o0 : Nat → Int64) (o1 : Nat → Int64) (o2 : Nat → Int64) (o3 : Nat → Int64) (b9 : Nat) (t9 : Nat) (hg : g < 3) (hn2 : 2 ≤ n) (hn : n ≤ 32) (hlf9 : lft ≤ 1) (hrg9 : rgt ≤ 1) (hok : ∀ c, c < n → OkC mM mP mE mF c) (hb9 : b9 ≤ n) (ht9 : t9 ≤ 400) (hL : LkC g mM mP mE vs vo k0 k1 k2 n) (hpc : pa9 b9 = w_pace g mM mP mE n lft rgt b9) (sz : Nat) : Met l y_Step_findBorder (wsy y_Step_findBorder b_Step_findBorder 11 (none)) (rmW 3 0 0 77) (PcW D ct st [.ref (xa 0), .ref (ta 0), .int (nI b9), .int (nI t9)] [((ta 0), .inr (7, [.ref (ta 1), .int (nI n), .int (nI lft), .int (nI rgt), .int (nI ns), .ref (ta 2), .ref (ta 7), .ref (ta 8), .ref (ta 9), .ref (ta 10)])), ((ta 1), .inr (1, [.int (nI g), .int ign, .int part, .int heat])), ((ta 2), .inl (ct 4, 4, .inr (.inr (.inr (.inr (rw4 (ta 3) (ta 4) (ta 5) (ta 6))))))), ((ta 3), .inl (ct 1, 32, .inr (.inl mM))), ((ta 4), .inl (ct 1, 32, .inr (.inl mP))), ((ta 5), .inl (ct 1, 32, .inr (.inl mE))), ((ta 6), .inl (ct 1, 32, .inr (.inl mF))), ((ta 7), .inl (ct 1, 4, .inr (.inl td))), ((ta 8), .inl (ct 1, 6, .inr (.inl cm))), ((ta 9), .inl (ct 1, 32, .inr (.inl gr))), ((ta 10), .inl (ct 0, 32, .inl gs)), ((xa 0), .inr (5, [.ref (xa 1), .ref (xa 2), .ref (xa 3), .ref (xa 7), .ref (xa 8), .ref (xa 13), .ref (xa 18), .long bq])), ((xa 1), .inl (ct 1, 32, .inr (.inl vs))), ((xa 2), .inl (ct 1, 32, .inr (.inl vo))), ((xa 3), .inl (ct 4, 3, .inr (.inr (.inr (.inr (rw3 (xa 4) (xa 5) (xa 6))))))), ((xa 4), .inl (ct 1, 32, .inr (.inl k0))), ((xa 5), .inl (ct 1, 32, .inr (.inl k1))), ((xa 6), .inl (ct 1, 32, .inr (.inl k2))), ((xa 7), .inl (ct 1, 33, .inr (.inl pa9))), ((xa 8), .inl (ct 4, 4, .inr (.inr (.inr (.inr (rw4 (xa 9) (xa 10) (xa 11) (xa 12))))))), ((xa 9), .inl (ct 1, 33, .inr (.inl o0))), ((xa 10), .inl (ct 1, 33, .inr (.inl o1))), ((xa 11), .inl (ct 1, 33, .inr (.inl o2))), ((xa 12), .inl (ct 1, 33, .inr (.inl o3)))] sz) (QcW D [((ta 0), .inr (7, [.ref (ta 1), .int (nI n), .int (nI lft), .int (nI rgt), .int (nI ns), .ref (ta 2), .ref (ta 7), .ref (ta 8), .ref (ta 9), .ref (ta 10)])), ((ta 1), .inr (1, [.int (nI g), .int ign, .int part, .int heat])), ((ta 2), .inl (ct 4, 4, .inr (.inr (.inr (.inr (rw4 (ta 3) (ta 4) (ta 5) (ta 6))))))), ((ta 3), .inl (ct 1, 32, .inr (.inl mM))), ((ta 4), .inl (ct 1, 32, .inr (.inl mP))), ((ta 5), .inl (ct 1, 32, .inr (.inl mE))), ((ta 6), .inl (ct 1, 32, .inr (.inl mF))), ((ta 7), .inl (ct 1, 4, .inr (.inl td))), ((ta 8), .inl (ct 1, 6, .inr (.inl cm))), ((ta 9), .inl (ct 1, 32, .inr (.inl gr))), ((ta 10), .inl (ct 0, 32, .inl gs)), ((xa 0), .inr (5, [.ref (xa 1), .ref (xa 2), .ref (xa 3), .ref (xa 7), .ref (xa 8), .ref (xa 13), .ref (xa 18), .long bq])), ((xa 1), .inl (ct 1, 32, .inr (.inl vs))), ((xa 2), .inl (ct 1, 32, .inr (.inl vo))), ((xa 3), .inl (ct 4, 3, .inr (.inr (.inr (.inr (rw3 (xa 4) (xa 5) (xa 6))))))), ((xa 4), .inl (ct 1, 32, .inr (.inl k0))), ((xa 5), .inl (ct 1, 32, .inr (.inl k1))), ((xa 6), .inl (ct 1, 32, .inr (.inl k2))), ((xa 7), .inl (ct 1, 33, .inr (.inl pa9))), ((xa 8), .inl (ct 4, 4, .inr (.inr (.inr (.inr (rw4 (xa 9) (xa 10) (xa 11) (xa 12))))))), ((xa 9), .inl (ct 1, 33, .inr (.inl o0))), ((xa 10), .inl (ct 1, 33, .inr (.inl o1))), ((xa 11), .inl (ct 1, 33, .inr (.inl o2))), ((xa 12), .inl (ct 1, 33, .inr (.inl o3)))] sz (fun v W1 => ∃ (o01 : Nat → Int64) (o11 : Nat → Int64) (o21 : Nat → Int64) (o31 : Nat → Int64), v = none ∧ W1 = [((ta 0), .inr (7, [.ref (ta 1), .int (nI n), .int (nI lft), .int (nI rgt), .int (nI ns), .ref (ta 2), .ref (ta 7), .ref (ta 8), .ref (ta 9), .ref (ta 10)])), ((ta 1), .inr (1, [.int (nI g), .int ign, .int part, .int heat])), ((ta 2), .inl (ct 4, 4, .inr (.inr (.inr (.inr (rw4 (ta 3) (ta 4) (ta 5) (ta 6))))))), ((ta 3), .inl (ct 1, 32, .inr (.inl mM))), ((ta 4), .inl (ct 1, 32, .inr (.inl mP))), ((ta 5), .inl (ct 1, 32, .inr (.inl mE))), ((ta 6), .inl (ct 1, 32, .inr (.inl mF))), ((ta 7), .inl (ct 1, 4, .inr (.inl td))), ((ta 8), .inl (ct 1, 6, .inr (.inl cm))), ((ta 9), .inl (ct 1, 32, .inr (.inl gr))), ((ta 10), .inl (ct 0, 32, .inl gs)), ((xa 0), .inr (5, [.ref (xa 1), .ref (xa 2), .ref (xa 3), .ref (xa 7), .ref (xa 8), .ref (xa 13), .ref (xa 18), .long bq])), ((xa 1), .inl (ct 1, 32, .inr (.inl vs))), ((xa 2), .inl (ct 1, 32, .inr (.inl vo))), ((xa 3), .inl (ct 4, 3, .inr (.inr (.inr (.inr (rw3 (xa 4) (xa 5) (xa 6))))))), ((xa 4), .inl (ct 1, 32, .inr (.inl k0))), ((xa 5), .inl (ct 1, 32, .inr (.inl k1))), ((xa 6), .inl (ct 1, 32, .inr (.inl k2))), ((xa 7), .inl (ct 1, 33, .inr (.inl pa9))), ((xa 8), .inl (ct 4, 4, .inr (.inr (.inr (.inr (rw4 (xa 9) (xa 10) (xa 11) (xa 12))))))), ((xa 9), .inl (ct 1, 33, .inr (.inl o01))), ((xa 10), .inl (ct 1, 33, .inr (.inl o11))), ((xa 11), .inl (ct 1, 33, .inr (.inl o21))), ((xa 12), .inl (ct 1, 33, .inr (.inl o31)))] ∧ (BorQ (lN t9) g mM mP mE mF n lft rgt b9 o0 o1 o2 o3 o01 o11 o21 o31))) 0 0 (va_A [((ta 0), .inr (7, [.ref (ta 1), .int (nI n), .int (nI lft), .int (nI rgt), .int (nI ns), .ref (ta 2), .ref (ta 7), .ref (ta 8), .ref (ta 9), .ref (ta 10)])), ((ta 1), .inr (1, [.int (nI g), .int ign, .int part, .int heat])), ((ta 2), .inl (ct 4, 4, .inr (.inr (.inr (.inr (rw4 (ta 3) (ta 4) (ta 5) (ta 6))))))), ((ta 3), .inl (ct 1, 32, .inr (.inl mM))), ((ta 4), .inl (ct 1, 32, .inr (.inl mP))), ((ta 5), .inl (ct 1, 32, .inr (.inl mE))), ((ta 6), .inl (ct 1, 32, .inr (.inl mF))), ((ta 7), .inl (ct 1, 4, .inr (.inl td))), ((ta 8), .inl (ct 1, 6, .inr (.inl cm))), ((ta 9), .inl (ct 1, 32, .inr (.inl gr))), ((ta 10), .inl (ct 0, 32, .inl gs)), ((xa 0), .inr (5, [.ref (xa 1), .ref (xa 2), .ref (xa 3), .ref (xa 7), .ref (xa 8), .ref (xa 13), .ref (xa 18), .long bq])), ((xa 1), .inl (ct 1, 32, .inr (.inl vs))), ((xa 2), .inl (ct 1, 32, .inr (.inl vo))), ((xa 3), .inl (ct 4, 3, .inr (.inr (.inr (.inr (rw3 (xa 4) (xa 5) (xa 6))))))), ((xa 4), .inl (ct 1, 32, .inr (.inl k0))), ((xa 5), .inl (ct 1, 32, .inr (.inl k1))), ((xa 6), .inl (ct 1, 32, .inr (.inl k2))), ((xa 7), .inl (ct 1, 33, .inr (.inl pa9))), ((xa 8), .inl (ct 4, 4, .inr (.inr (.inr (.inr (rw4 (xa 9) (xa 10) (xa 11) (xa 12))))))), ((xa 9), .inl (ct 1, 33, .inr (.inl o0))), ((xa 10), .inl (ct 1, 33, .inr (.inl o1))), ((xa 11), .inl (ct 1, 33, .inr (.inl o2))), ((xa 12), .inl (ct 1, 33, .inr (.inl o3)))] sz) := by
  refine enterW (by decide) (Nat.le_of_ble_eq_true rfl) ?_
  intro p e s m args below meth c ls A hx hb hr hml hown hts hlk hin hsz hAe hP hD hA hE hV hS hl
  have hl : lv_has ls 11 [(0, .ref (xa 0)), (1, .ref (ta 0)), (2, .int (nI b9)), (3, .int (nI t9))] := hl
  have h1 := lf_lt (n := n) hn2 hb9
  have h2 := rg_lt (n := n) hn2 hb9
  have hk1 := hok _ h1
  have hk2 := hok _ h2
  refine lv_iload_n hx hb d_Step_findBorder_0 rfl (lv_at hl 2 rfl) ?_
  refine cRS (As := [.int (nI b9)]) (rest := []) K_Step_leftOf x_506 hx hb hml hown hts hE hV hS (c_Step_leftOf l D ct st b9 (by omega)) (fun k q h => by simp at h) rfl hl.1 rfl (Nat.le_of_ble_eq_true rfl) d_Step_findBorder_1 (Nat.le_of_ble_eq_true rfl) (Nat.le_of_ble_eq_true rfl) ⟨Nat.le_of_ble_eq_true rfl, Nat.le_of_ble_eq_true rfl⟩ ?_
  refine lv_istore (lv' := [(4, .int (nI (w_lf b9))), (0, .ref (xa 0)), (1, .ref (ta 0)), (2, .int (nI b9)), (3, .int (nI t9))]) hx hb d_Step_findBorder_4 hl (by decide) rfl (fun ls hl => ?_)
  refine lv_aload_n hx hb d_Step_findBorder_6 rfl (lv_at hl 2 rfl) ?_
  refine lv_iload_n hx hb d_Step_findBorder_7 rfl (lv_at hl 3 rfl) ?_
  refine cRS (As := [.ref (ta 0), .int (nI b9)]) (rest := []) K_Step_rightOf x_512 hx hb hml hown hts hE hV hS (c_Step_rightOf l D ct st ta g ign part heat n lft rgt ns mM mP mE mF td cm gr gs b9 (by omega) (by omega) (by omega)) (hP.sub (ws' := [((ta 0), .inr (7, [.ref (ta 1), .int (nI n), .int (nI lft), .int (nI rgt), .int (nI ns), .ref (ta 2), .ref (ta 7), .ref (ta 8), .ref (ta 9), .ref (ta 10)])), ((ta 1), .inr (1, [.int (nI g), .int ign, .int part, .int heat])), ((ta 2), .inl (ct 4, 4, .inr (.inr (.inr (.inr (rw4 (ta 3) (ta 4) (ta 5) (ta 6))))))), ((ta 3), .inl (ct 1, 32, .inr (.inl mM))), ((ta 4), .inl (ct 1, 32, .inr (.inl mP))), ((ta 5), .inl (ct 1, 32, .inr (.inl mE))), ((ta 6), .inl (ct 1, 32, .inr (.inl mF))), ((ta 7), .inl (ct 1, 4, .inr (.inl td))), ((ta 8), .inl (ct 1, 6, .inr (.inl cm))), ((ta 9), .inl (ct 1, 32, .inr (.inl gr))), ((ta 10), .inl (ct 0, 32, .inl gs))]) [0, 1, 2, 3, 4, 5, 6, 7, 8, 9, 10] rfl) rfl hl.1 rfl (Nat.le_of_ble_eq_true rfl) d_Step_findBorder_8 (Nat.le_of_ble_eq_true rfl) (Nat.le_of_ble_eq_true rfl) ⟨Nat.le_of_ble_eq_true rfl, Nat.le_of_ble_eq_true rfl⟩ ?_
  refine lv_istore (lv' := [(5, .int (nI (w_rg n b9))), (4, .int (nI (w_lf b9))), (0, .ref (xa 0)), (1, .ref (ta 0)), (2, .int (nI b9)), (3, .int (nI t9))]) hx hb d_Step_findBorder_11 hl (by decide) rfl (fun ls hl => ?_)
  refine lv_aload_n hx hb d_Step_findBorder_13 rfl (lv_at hl 3 rfl) ?_
  refine lv_iload_n hx hb d_Step_findBorder_14 rfl (lv_at hl 4 rfl) ?_
  refine cRV (As := [.int (nI b9)]) (rest := []) (q9 := 0) (ci := 7) K_Tube_isWall x_519 hx hb hml hown hts hE hV hS (c_Tube_isWall l D ct st ta g ign part heat n lft rgt ns mM mP mE mF td cm gr gs b9 (by omega) (by omega) (by omega) (by omega)) (hP.sub (ws' := [((ta 0), .inr (7, [.ref (ta 1), .int (nI n), .int (nI lft), .int (nI rgt), .int (nI ns), .ref (ta 2), .ref (ta 7), .ref (ta 8), .ref (ta 9), .ref (ta 10)])), ((ta 1), .inr (1, [.int (nI g), .int ign, .int part, .int heat])), ((ta 2), .inl (ct 4, 4, .inr (.inr (.inr (.inr (rw4 (ta 3) (ta 4) (ta 5) (ta 6))))))), ((ta 3), .inl (ct 1, 32, .inr (.inl mM))), ((ta 4), .inl (ct 1, 32, .inr (.inl mP))), ((ta 5), .inl (ct 1, 32, .inr (.inl mE))), ((ta 6), .inl (ct 1, 32, .inr (.inl mF))), ((ta 7), .inl (ct 1, 4, .inr (.inl td))), ((ta 8), .inl (ct 1, 6, .inr (.inl cm))), ((ta 9), .inl (ct 1, 32, .inr (.inl gr))), ((ta 10), .inl (ct 0, 32, .inl gs))]) [0, 1, 2, 3, 4, 5, 6, 7, 8, 9, 10] rfl) rfl hP rfl rfl hl.1 rfl (Nat.le_of_ble_eq_true rfl) d_Step_findBorder_15 (Nat.le_of_ble_eq_true rfl) (Nat.le_of_ble_eq_true rfl) ⟨Nat.le_of_ble_eq_true rfl, Nat.le_of_ble_eq_true rfl⟩ ?_
  refine q_ifeq_b (tgt := 29) hx hb d_Step_findBorder_18 (by decide) (fun h_18 => ?_) (fun h_18 => ?_)
  · refine lv_iconst (v := 0) hx hb d_Step_findBorder_29 (by decide) ?_
    refine lv_istore (lv' := [(6, .int 0), (5, .int (nI (w_rg n b9))), (4, .int (nI (w_lf b9))), (0, .ref (xa 0)), (1, .ref (ta 0)), (2, .int (nI b9)), (3, .int (nI t9))]) hx hb d_Step_findBorder_30 hl (by decide) rfl (fun ls hl => ?_)
    refine lv_iload hx hb d_Step_findBorder_32 (lv_at hl 0 rfl) ?_
    refine lv_iconst (v := 2) hx hb d_Step_findBorder_34 (by decide) ?_
    refine lv_icmp_gt (tgt := 109) hx hb d_Step_findBorder_35 (by decide) (fun h => absurd h (by decide)) (fun _ => ?_)
    refine lv_aload_n hx hb d_Step_findBorder_38 rfl (lv_at hl 3 rfl) ?_
    refine q_get 11 2 i_Step rfl hx hb hts hown hE hP rfl (by decide) x_246 rfl d_Step_findBorder_39 ?_
    refine lv_iload hx hb d_Step_findBorder_42 (lv_at hl 0 rfl) ?_
    refine q_aald (k := 0) (r := (xa 4)) 14 hx hb hE hP rfl rfl (by decide) (by decide) rfl d_Step_findBorder_44 ?_
    refine lv_iload hx hb d_Step_findBorder_45 (lv_at hl 2 rfl) ?_
    refine q_lald (k := (w_lf b9)) 15 hx hb hE hP rfl rfl (by omega) (by decide) d_Step_findBorder_47 ?_
    refine lv_aload_n hx hb d_Step_findBorder_48 rfl (lv_at hl 3 rfl) ?_
    refine q_get 11 2 i_Step rfl hx hb hts hown hE hP rfl (by decide) x_246 rfl d_Step_findBorder_49 ?_
    refine lv_iload hx hb d_Step_findBorder_52 (lv_at hl 0 rfl) ?_
    refine q_aald (k := 0) (r := (xa 4)) 14 hx hb hE hP rfl rfl (by decide) (by decide) rfl d_Step_findBorder_54 ?_
    refine lv_iload hx hb d_Step_findBorder_55 (lv_at hl 1 rfl) ?_
    refine q_lald (k := (w_rg n b9)) 15 hx hb hE hP rfl rfl (by omega) (by decide) d_Step_findBorder_57 ?_
    refine lv_ladd hx hb d_Step_findBorder_58 ?_
    refine lv_lstore (lv' := [(7, .long ((k0 (w_lf b9)) + (k0 (w_rg n b9)))), (6, .int 0), (5, .int (nI (w_rg n b9))), (4, .int (nI (w_lf b9))), (0, .ref (xa 0)), (1, .ref (ta 0)), (2, .int (nI b9)), (3, .int (nI t9))]) hx hb d_Step_findBorder_59 hl (by decide) rfl (fun ls hl => ?_)
    refine lv_aload_n hx hb d_Step_findBorder_61 rfl (lv_at hl 5 rfl) ?_
    refine q_get 0 5 i_Tube rfl hx hb hts hown hE hP rfl (by decide) x_91 rfl d_Step_findBorder_62 ?_
    refine lv_iload hx hb d_Step_findBorder_65 (lv_at hl 1 rfl) ?_
    refine q_aald (k := 0) (r := (ta 3)) 2 hx hb hE hP rfl rfl (by decide) (by decide) rfl d_Step_findBorder_67 ?_
    refine lv_iload hx hb d_Step_findBorder_68 (lv_at hl 2 rfl) ?_
    refine q_lald (k := (w_rg n b9)) 3 hx hb hE hP rfl rfl (by omega) (by decide) d_Step_findBorder_70 ?_
    refine lv_aload_n hx hb d_Step_findBorder_71 rfl (lv_at hl 5 rfl) ?_
    refine q_get 0 5 i_Tube rfl hx hb hts hown hE hP rfl (by decide) x_91 rfl d_Step_findBorder_72 ?_
    refine lv_iload hx hb d_Step_findBorder_75 (lv_at hl 1 rfl) ?_
    refine q_aald (k := 0) (r := (ta 3)) 2 hx hb hE hP rfl rfl (by decide) (by decide) rfl d_Step_findBorder_77 ?_
    refine lv_iload hx hb d_Step_findBorder_78 (lv_at hl 3 rfl) ?_
    refine q_lald (k := (w_lf b9)) 3 hx hb hE hP rfl rfl (by omega) (by decide) d_Step_findBorder_80 ?_
    refine lv_lsub hx hb d_Step_findBorder_81 ?_
    refine lv_lstore (lv' := [(9, .long ((mM (w_rg n b9)) - (mM (w_lf b9)))), (7, .long ((k0 (w_lf b9)) + (k0 (w_rg n b9)))), (6, .int 0), (5, .int (nI (w_rg n b9))), (4, .int (nI (w_lf b9))), (0, .ref (xa 0)), (1, .ref (ta 0)), (2, .int (nI b9)), (3, .int (nI t9))]) hx hb d_Step_findBorder_82 hl (by decide) rfl (fun ls hl => ?_)
    refine lv_aload_n hx hb d_Step_findBorder_84 rfl (lv_at hl 5 rfl) ?_
    refine q_get 11 4 i_Step rfl hx hb hts hown hE hP rfl (by decide) x_248 rfl d_Step_findBorder_85 ?_
    refine lv_iload hx hb d_Step_findBorder_88 (lv_at hl 2 rfl) ?_
    refine q_aald (k := 0) (r := (xa 9)) 19 hx hb hE hP rfl rfl (by decide) (by decide) rfl d_Step_findBorder_90 ?_
    refine lv_iload_n hx hb d_Step_findBorder_91 rfl (lv_at hl 7 rfl) ?_
    refine lv_aload_n hx hb d_Step_findBorder_92 rfl (lv_at hl 5 rfl) ?_
    refine lv_iload_n hx hb d_Step_findBorder_93 rfl (lv_at hl 8 rfl) ?_
    refine lv_iload_n hx hb d_Step_findBorder_94 rfl (lv_at hl 7 rfl) ?_
    refine lv_lload hx hb d_Step_findBorder_95 (lv_at hl 1 rfl) ?_
    refine lv_lload hx hb d_Step_findBorder_97 (lv_at hl 0 rfl) ?_
    refine cRV (As := [.int (nI t9), .int (nI b9), .long ((k0 (w_lf b9)) + (k0 (w_rg n b9))), .long ((mM (w_rg n b9)) - (mM (w_lf b9)))]) (rest := [.int (nI b9), .ref (xa 9)]) (q9 := 11) (ci := 5) K_Step_goes x_536 hx hb hml hown hts hE hV hS (c_Step_goes l D ct st xa bq pa9 t9 b9 ((k0 (w_lf b9)) + (k0 (w_rg n b9))) ((mM (w_rg n b9)) - (mM (w_lf b9))) (by omega) (by omega)) (hP.sub (ws' := [((xa 0), .inr (5, [.ref (xa 1), .ref (xa 2), .ref (xa 3), .ref (xa 7), .ref (xa 8), .ref (xa 13), .ref (xa 18), .long bq])), ((xa 7), .inl (ct 1, 33, .inr (.inl pa9)))]) [11, 18] rfl) rfl hP rfl rfl hl.1 rfl (Nat.le_of_ble_eq_true rfl) d_Step_findBorder_99 (Nat.le_of_ble_eq_true rfl) (Nat.le_of_ble_eq_true rfl) ⟨Nat.le_of_ble_eq_true rfl, Nat.le_of_ble_eq_true rfl⟩ ?_
    obtain ⟨o0_1, eo0_1⟩ : ∃ g9 : Nat → Int64, g9 = vp_updL o0 b9 (w_over (lN t9) ((k0 (w_lf b9)) + (k0 (w_rg n b9))) (pa9 b9) ((mM (w_rg n b9)) - (mM (w_lf b9)))) := ⟨_, rfl⟩
    refine q_last (k := b9) 20 (ws1 := [((ta 0), .inr (7, [.ref (ta 1), .int (nI n), .int (nI lft), .int (nI rgt), .int (nI ns), .ref (ta 2), .ref (ta 7), .ref (ta 8), .ref (ta 9), .ref (ta 10)])), ((ta 1), .inr (1, [.int (nI g), .int ign, .int part, .int heat])), ((ta 2), .inl (ct 4, 4, .inr (.inr (.inr (.inr (rw4 (ta 3) (ta 4) (ta 5) (ta 6))))))), ((ta 3), .inl (ct 1, 32, .inr (.inl mM))), ((ta 4), .inl (ct 1, 32, .inr (.inl mP))), ((ta 5), .inl (ct 1, 32, .inr (.inl mE))), ((ta 6), .inl (ct 1, 32, .inr (.inl mF))), ((ta 7), .inl (ct 1, 4, .inr (.inl td))), ((ta 8), .inl (ct 1, 6, .inr (.inl cm))), ((ta 9), .inl (ct 1, 32, .inr (.inl gr))), ((ta 10), .inl (ct 0, 32, .inl gs)), ((xa 0), .inr (5, [.ref (xa 1), .ref (xa 2), .ref (xa 3), .ref (xa 7), .ref (xa 8), .ref (xa 13), .ref (xa 18), .long bq])), ((xa 1), .inl (ct 1, 32, .inr (.inl vs))), ((xa 2), .inl (ct 1, 32, .inr (.inl vo))), ((xa 3), .inl (ct 4, 3, .inr (.inr (.inr (.inr (rw3 (xa 4) (xa 5) (xa 6))))))), ((xa 4), .inl (ct 1, 32, .inr (.inl k0))), ((xa 5), .inl (ct 1, 32, .inr (.inl k1))), ((xa 6), .inl (ct 1, 32, .inr (.inl k2))), ((xa 7), .inl (ct 1, 33, .inr (.inl pa9))), ((xa 8), .inl (ct 4, 4, .inr (.inr (.inr (.inr (rw4 (xa 9) (xa 10) (xa 11) (xa 12))))))), ((xa 9), .inl (ct 1, 33, .inr (.inl o0_1))), ((xa 10), .inl (ct 1, 33, .inr (.inl o1))), ((xa 11), .inl (ct 1, 33, .inr (.inl o2))), ((xa 12), .inl (ct 1, 33, .inr (.inl o3)))]) eo0_1 hx hb hE hP hD hS rfl rfl (by omega) (by decide) rfl d_Step_findBorder_102 (fun H locs hP hD hS => ?_)
    refine lv_iinc (v := 1) (lv' := [(6, .int 1), (9, .long ((mM (w_rg n b9)) - (mM (w_lf b9)))), (7, .long ((k0 (w_lf b9)) + (k0 (w_rg n b9)))), (5, .int (nI (w_rg n b9))), (4, .int (nI (w_lf b9))), (0, .ref (xa 0)), (1, .ref (ta 0)), (2, .int (nI b9)), (3, .int (nI t9))]) hx hb d_Step_findBorder_103 hl (k := 2) rfl (by decide) (by decide) rfl (fun ls hl => ?_)
    refine lv_goto (tgt := 32) hx hb d_Step_findBorder_106 (by decide) ?_
    refine lv_iload hx hb d_Step_findBorder_32 (lv_at hl 0 rfl) ?_
    refine lv_iconst (v := 2) hx hb d_Step_findBorder_34 (by decide) ?_
    refine lv_icmp_gt (tgt := 109) hx hb d_Step_findBorder_35 (by decide) (fun h => absurd h (by decide)) (fun _ => ?_)
    refine lv_aload_n hx hb d_Step_findBorder_38 rfl (lv_at hl 5 rfl) ?_
    refine q_get 11 2 i_Step rfl hx hb hts hown hE hP rfl (by decide) x_246 rfl d_Step_findBorder_39 ?_
    refine lv_iload hx hb d_Step_findBorder_42 (lv_at hl 0 rfl) ?_
    refine q_aald (k := 1) (r := (xa 5)) 14 hx hb hE hP rfl rfl (by decide) (by decide) rfl d_Step_findBorder_44 ?_
    refine lv_iload hx hb d_Step_findBorder_45 (lv_at hl 4 rfl) ?_
    refine q_lald (k := (w_lf b9)) 16 hx hb hE hP rfl rfl (by omega) (by decide) d_Step_findBorder_47 ?_
    refine lv_aload_n hx hb d_Step_findBorder_48 rfl (lv_at hl 5 rfl) ?_
    refine q_get 11 2 i_Step rfl hx hb hts hown hE hP rfl (by decide) x_246 rfl d_Step_findBorder_49 ?_
    refine lv_iload hx hb d_Step_findBorder_52 (lv_at hl 0 rfl) ?_
    refine q_aald (k := 1) (r := (xa 5)) 14 hx hb hE hP rfl rfl (by decide) (by decide) rfl d_Step_findBorder_54 ?_
    refine lv_iload hx hb d_Step_findBorder_55 (lv_at hl 3 rfl) ?_
    refine q_lald (k := (w_rg n b9)) 16 hx hb hE hP rfl rfl (by omega) (by decide) d_Step_findBorder_57 ?_
    refine lv_ladd hx hb d_Step_findBorder_58 ?_
    refine lv_lstore (lv' := [(7, .long ((k1 (w_lf b9)) + (k1 (w_rg n b9)))), (6, .int 1), (9, .long ((mM (w_rg n b9)) - (mM (w_lf b9)))), (5, .int (nI (w_rg n b9))), (4, .int (nI (w_lf b9))), (0, .ref (xa 0)), (1, .ref (ta 0)), (2, .int (nI b9)), (3, .int (nI t9))]) hx hb d_Step_findBorder_59 hl (by decide) rfl (fun ls hl => ?_)
    refine lv_aload_n hx hb d_Step_findBorder_61 rfl (lv_at hl 6 rfl) ?_
    refine q_get 0 5 i_Tube rfl hx hb hts hown hE hP rfl (by decide) x_91 rfl d_Step_findBorder_62 ?_
    refine lv_iload hx hb d_Step_findBorder_65 (lv_at hl 1 rfl) ?_
    refine q_aald (k := 1) (r := (ta 4)) 2 hx hb hE hP rfl rfl (by decide) (by decide) rfl d_Step_findBorder_67 ?_
    refine lv_iload hx hb d_Step_findBorder_68 (lv_at hl 3 rfl) ?_
    refine q_lald (k := (w_rg n b9)) 4 hx hb hE hP rfl rfl (by omega) (by decide) d_Step_findBorder_70 ?_
    refine lv_aload_n hx hb d_Step_findBorder_71 rfl (lv_at hl 6 rfl) ?_
    refine q_get 0 5 i_Tube rfl hx hb hts hown hE hP rfl (by decide) x_91 rfl d_Step_findBorder_72 ?_
    refine lv_iload hx hb d_Step_findBorder_75 (lv_at hl 1 rfl) ?_
    refine q_aald (k := 1) (r := (ta 4)) 2 hx hb hE hP rfl rfl (by decide) (by decide) rfl d_Step_findBorder_77 ?_
    refine lv_iload hx hb d_Step_findBorder_78 (lv_at hl 4 rfl) ?_
    refine q_lald (k := (w_lf b9)) 4 hx hb hE hP rfl rfl (by omega) (by decide) d_Step_findBorder_80 ?_
    refine lv_lsub hx hb d_Step_findBorder_81 ?_
    refine lv_lstore (lv' := [(9, .long ((mP (w_rg n b9)) - (mP (w_lf b9)))), (7, .long ((k1 (w_lf b9)) + (k1 (w_rg n b9)))), (6, .int 1), (5, .int (nI (w_rg n b9))), (4, .int (nI (w_lf b9))), (0, .ref (xa 0)), (1, .ref (ta 0)), (2, .int (nI b9)), (3, .int (nI t9))]) hx hb d_Step_findBorder_82 hl (by decide) rfl (fun ls hl => ?_)
    refine lv_aload_n hx hb d_Step_findBorder_84 rfl (lv_at hl 5 rfl) ?_
    refine q_get 11 4 i_Step rfl hx hb hts hown hE hP rfl (by decide) x_248 rfl d_Step_findBorder_85 ?_
    refine lv_iload hx hb d_Step_findBorder_88 (lv_at hl 2 rfl) ?_
    refine q_aald (k := 1) (r := (xa 10)) 19 hx hb hE hP rfl rfl (by decide) (by decide) rfl d_Step_findBorder_90 ?_
    refine lv_iload_n hx hb d_Step_findBorder_91 rfl (lv_at hl 7 rfl) ?_
    refine lv_aload_n hx hb d_Step_findBorder_92 rfl (lv_at hl 5 rfl) ?_
    refine lv_iload_n hx hb d_Step_findBorder_93 rfl (lv_at hl 8 rfl) ?_
    refine lv_iload_n hx hb d_Step_findBorder_94 rfl (lv_at hl 7 rfl) ?_
    refine lv_lload hx hb d_Step_findBorder_95 (lv_at hl 1 rfl) ?_
    refine lv_lload hx hb d_Step_findBorder_97 (lv_at hl 0 rfl) ?_
    refine cRV (As := [.int (nI t9), .int (nI b9), .long ((k1 (w_lf b9)) + (k1 (w_rg n b9))), .long ((mP (w_rg n b9)) - (mP (w_lf b9)))]) (rest := [.int (nI b9), .ref (xa 10)]) (q9 := 11) (ci := 5) K_Step_goes x_536 hx hb hml hown hts hE hV hS (c_Step_goes l D ct st xa bq pa9 t9 b9 ((k1 (w_lf b9)) + (k1 (w_rg n b9))) ((mP (w_rg n b9)) - (mP (w_lf b9))) (by omega) (by omega)) (hP.sub (ws' := [((xa 0), .inr (5, [.ref (xa 1), .ref (xa 2), .ref (xa 3), .ref (xa 7), .ref (xa 8), .ref (xa 13), .ref (xa 18), .long bq])), ((xa 7), .inl (ct 1, 33, .inr (.inl pa9)))]) [11, 18] rfl) rfl hP rfl rfl hl.1 rfl (Nat.le_of_ble_eq_true rfl) d_Step_findBorder_99 (Nat.le_of_ble_eq_true rfl) (Nat.le_of_ble_eq_true rfl) ⟨Nat.le_of_ble_eq_true rfl, Nat.le_of_ble_eq_true rfl⟩ ?_
    obtain ⟨o1_1, eo1_1⟩ : ∃ g9 : Nat → Int64, g9 = vp_updL o1 b9 (w_over (lN t9) ((k1 (w_lf b9)) + (k1 (w_rg n b9))) (pa9 b9) ((mP (w_rg n b9)) - (mP (w_lf b9)))) := ⟨_, rfl⟩
    refine q_last (k := b9) 21 (ws1 := [((ta 0), .inr (7, [.ref (ta 1), .int (nI n), .int (nI lft), .int (nI rgt), .int (nI ns), .ref (ta 2), .ref (ta 7), .ref (ta 8), .ref (ta 9), .ref (ta 10)])), ((ta 1), .inr (1, [.int (nI g), .int ign, .int part, .int heat])), ((ta 2), .inl (ct 4, 4, .inr (.inr (.inr (.inr (rw4 (ta 3) (ta 4) (ta 5) (ta 6))))))), ((ta 3), .inl (ct 1, 32, .inr (.inl mM))), ((ta 4), .inl (ct 1, 32, .inr (.inl mP))), ((ta 5), .inl (ct 1, 32, .inr (.inl mE))), ((ta 6), .inl (ct 1, 32, .inr (.inl mF))), ((ta 7), .inl (ct 1, 4, .inr (.inl td))), ((ta 8), .inl (ct 1, 6, .inr (.inl cm))), ((ta 9), .inl (ct 1, 32, .inr (.inl gr))), ((ta 10), .inl (ct 0, 32, .inl gs)), ((xa 0), .inr (5, [.ref (xa 1), .ref (xa 2), .ref (xa 3), .ref (xa 7), .ref (xa 8), .ref (xa 13), .ref (xa 18), .long bq])), ((xa 1), .inl (ct 1, 32, .inr (.inl vs))), ((xa 2), .inl (ct 1, 32, .inr (.inl vo))), ((xa 3), .inl (ct 4, 3, .inr (.inr (.inr (.inr (rw3 (xa 4) (xa 5) (xa 6))))))), ((xa 4), .inl (ct 1, 32, .inr (.inl k0))), ((xa 5), .inl (ct 1, 32, .inr (.inl k1))), ((xa 6), .inl (ct 1, 32, .inr (.inl k2))), ((xa 7), .inl (ct 1, 33, .inr (.inl pa9))), ((xa 8), .inl (ct 4, 4, .inr (.inr (.inr (.inr (rw4 (xa 9) (xa 10) (xa 11) (xa 12))))))), ((xa 9), .inl (ct 1, 33, .inr (.inl o0_1))), ((xa 10), .inl (ct 1, 33, .inr (.inl o1_1))), ((xa 11), .inl (ct 1, 33, .inr (.inl o2))), ((xa 12), .inl (ct 1, 33, .inr (.inl o3)))]) eo1_1 hx hb hE hP hD hS rfl rfl (by omega) (by decide) rfl d_Step_findBorder_102 (fun H locs hP hD hS => ?_)
    refine lv_iinc (v := 2) (lv' := [(6, .int 2), (9, .long ((mP (w_rg n b9)) - (mP (w_lf b9)))), (7, .long ((k1 (w_lf b9)) + (k1 (w_rg n b9)))), (5, .int (nI (w_rg n b9))), (4, .int (nI (w_lf b9))), (0, .ref (xa 0)), (1, .ref (ta 0)), (2, .int (nI b9)), (3, .int (nI t9))]) hx hb d_Step_findBorder_103 hl (k := 2) rfl (by decide) (by decide) rfl (fun ls hl => ?_)
    refine lv_goto (tgt := 32) hx hb d_Step_findBorder_106 (by decide) ?_
    refine lv_iload hx hb d_Step_findBorder_32 (lv_at hl 0 rfl) ?_
    refine lv_iconst (v := 2) hx hb d_Step_findBorder_34 (by decide) ?_
    refine lv_icmp_gt (tgt := 109) hx hb d_Step_findBorder_35 (by decide) (fun h => absurd h (by decide)) (fun _ => ?_)
    refine lv_aload_n hx hb d_Step_findBorder_38 rfl (lv_at hl 5 rfl) ?_
    refine q_get 11 2 i_Step rfl hx hb hts hown hE hP rfl (by decide) x_246 rfl d_Step_findBorder_39 ?_
    refine lv_iload hx hb d_Step_findBorder_42 (lv_at hl 0 rfl) ?_
    refine q_aald (k := 2) (r := (xa 6)) 14 hx hb hE hP rfl rfl (by decide) (by decide) rfl d_Step_findBorder_44 ?_
    refine lv_iload hx hb d_Step_findBorder_45 (lv_at hl 4 rfl) ?_
    refine q_lald (k := (w_lf b9)) 17 hx hb hE hP rfl rfl (by omega) (by decide) d_Step_findBorder_47 ?_
    refine lv_aload_n hx hb d_Step_findBorder_48 rfl (lv_at hl 5 rfl) ?_
    refine q_get 11 2 i_Step rfl hx hb hts hown hE hP rfl (by decide) x_246 rfl d_Step_findBorder_49 ?_
    refine lv_iload hx hb d_Step_findBorder_52 (lv_at hl 0 rfl) ?_
    refine q_aald (k := 2) (r := (xa 6)) 14 hx hb hE hP rfl rfl (by decide) (by decide) rfl d_Step_findBorder_54 ?_
    refine lv_iload hx hb d_Step_findBorder_55 (lv_at hl 3 rfl) ?_
    refine q_lald (k := (w_rg n b9)) 17 hx hb hE hP rfl rfl (by omega) (by decide) d_Step_findBorder_57 ?_
    refine lv_ladd hx hb d_Step_findBorder_58 ?_
    refine lv_lstore (lv' := [(7, .long ((k2 (w_lf b9)) + (k2 (w_rg n b9)))), (6, .int 2), (9, .long ((mP (w_rg n b9)) - (mP (w_lf b9)))), (5, .int (nI (w_rg n b9))), (4, .int (nI (w_lf b9))), (0, .ref (xa 0)), (1, .ref (ta 0)), (2, .int (nI b9)), (3, .int (nI t9))]) hx hb d_Step_findBorder_59 hl (by decide) rfl (fun ls hl => ?_)
    refine lv_aload_n hx hb d_Step_findBorder_61 rfl (lv_at hl 6 rfl) ?_
    refine q_get 0 5 i_Tube rfl hx hb hts hown hE hP rfl (by decide) x_91 rfl d_Step_findBorder_62 ?_
    refine lv_iload hx hb d_Step_findBorder_65 (lv_at hl 1 rfl) ?_
    refine q_aald (k := 2) (r := (ta 5)) 2 hx hb hE hP rfl rfl (by decide) (by decide) rfl d_Step_findBorder_67 ?_
    refine lv_iload hx hb d_Step_findBorder_68 (lv_at hl 3 rfl) ?_
    refine q_lald (k := (w_rg n b9)) 5 hx hb hE hP rfl rfl (by omega) (by decide) d_Step_findBorder_70 ?_
    refine lv_aload_n hx hb d_Step_findBorder_71 rfl (lv_at hl 6 rfl) ?_
    refine q_get 0 5 i_Tube rfl hx hb hts hown hE hP rfl (by decide) x_91 rfl d_Step_findBorder_72 ?_
    refine lv_iload hx hb d_Step_findBorder_75 (lv_at hl 1 rfl) ?_
    refine q_aald (k := 2) (r := (ta 5)) 2 hx hb hE hP rfl rfl (by decide) (by decide) rfl d_Step_findBorder_77 ?_
    refine lv_iload hx hb d_Step_findBorder_78 (lv_at hl 4 rfl) ?_
    refine q_lald (k := (w_lf b9)) 5 hx hb hE hP rfl rfl (by omega) (by decide) d_Step_findBorder_80 ?_
    refine lv_lsub hx hb d_Step_findBorder_81 ?_
    refine lv_lstore (lv' := [(9, .long ((mE (w_rg n b9)) - (mE (w_lf b9)))), (7, .long ((k2 (w_lf b9)) + (k2 (w_rg n b9)))), (6, .int 2), (5, .int (nI (w_rg n b9))), (4, .int (nI (w_lf b9))), (0, .ref (xa 0)), (1, .ref (ta 0)), (2, .int (nI b9)), (3, .int (nI t9))]) hx hb d_Step_findBorder_82 hl (by decide) rfl (fun ls hl => ?_)
    refine lv_aload_n hx hb d_Step_findBorder_84 rfl (lv_at hl 5 rfl) ?_
    refine q_get 11 4 i_Step rfl hx hb hts hown hE hP rfl (by decide) x_248 rfl d_Step_findBorder_85 ?_
    refine lv_iload hx hb d_Step_findBorder_88 (lv_at hl 2 rfl) ?_
    refine q_aald (k := 2) (r := (xa 11)) 19 hx hb hE hP rfl rfl (by decide) (by decide) rfl d_Step_findBorder_90 ?_
    refine lv_iload_n hx hb d_Step_findBorder_91 rfl (lv_at hl 7 rfl) ?_
    refine lv_aload_n hx hb d_Step_findBorder_92 rfl (lv_at hl 5 rfl) ?_
    refine lv_iload_n hx hb d_Step_findBorder_93 rfl (lv_at hl 8 rfl) ?_
    refine lv_iload_n hx hb d_Step_findBorder_94 rfl (lv_at hl 7 rfl) ?_
    refine lv_lload hx hb d_Step_findBorder_95 (lv_at hl 1 rfl) ?_
    refine lv_lload hx hb d_Step_findBorder_97 (lv_at hl 0 rfl) ?_
    refine cRV (As := [.int (nI t9), .int (nI b9), .long ((k2 (w_lf b9)) + (k2 (w_rg n b9))), .long ((mE (w_rg n b9)) - (mE (w_lf b9)))]) (rest := [.int (nI b9), .ref (xa 11)]) (q9 := 11) (ci := 5) K_Step_goes x_536 hx hb hml hown hts hE hV hS (c_Step_goes l D ct st xa bq pa9 t9 b9 ((k2 (w_lf b9)) + (k2 (w_rg n b9))) ((mE (w_rg n b9)) - (mE (w_lf b9))) (by omega) (by omega)) (hP.sub (ws' := [((xa 0), .inr (5, [.ref (xa 1), .ref (xa 2), .ref (xa 3), .ref (xa 7), .ref (xa 8), .ref (xa 13), .ref (xa 18), .long bq])), ((xa 7), .inl (ct 1, 33, .inr (.inl pa9)))]) [11, 18] rfl) rfl hP rfl rfl hl.1 rfl (Nat.le_of_ble_eq_true rfl) d_Step_findBorder_99 (Nat.le_of_ble_eq_true rfl) (Nat.le_of_ble_eq_true rfl) ⟨Nat.le_of_ble_eq_true rfl, Nat.le_of_ble_eq_true rfl⟩ ?_
    obtain ⟨o2_1, eo2_1⟩ : ∃ g9 : Nat → Int64, g9 = vp_updL o2 b9 (w_over (lN t9) ((k2 (w_lf b9)) + (k2 (w_rg n b9))) (pa9 b9) ((mE (w_rg n b9)) - (mE (w_lf b9)))) := ⟨_, rfl⟩
    refine q_last (k := b9) 22 (ws1 := [((ta 0), .inr (7, [.ref (ta 1), .int (nI n), .int (nI lft), .int (nI rgt), .int (nI ns), .ref (ta 2), .ref (ta 7), .ref (ta 8), .ref (ta 9), .ref (ta 10)])), ((ta 1), .inr (1, [.int (nI g), .int ign, .int part, .int heat])), ((ta 2), .inl (ct 4, 4, .inr (.inr (.inr (.inr (rw4 (ta 3) (ta 4) (ta 5) (ta 6))))))), ((ta 3), .inl (ct 1, 32, .inr (.inl mM))), ((ta 4), .inl (ct 1, 32, .inr (.inl mP))), ((ta 5), .inl (ct 1, 32, .inr (.inl mE))), ((ta 6), .inl (ct 1, 32, .inr (.inl mF))), ((ta 7), .inl (ct 1, 4, .inr (.inl td))), ((ta 8), .inl (ct 1, 6, .inr (.inl cm))), ((ta 9), .inl (ct 1, 32, .inr (.inl gr))), ((ta 10), .inl (ct 0, 32, .inl gs)), ((xa 0), .inr (5, [.ref (xa 1), .ref (xa 2), .ref (xa 3), .ref (xa 7), .ref (xa 8), .ref (xa 13), .ref (xa 18), .long bq])), ((xa 1), .inl (ct 1, 32, .inr (.inl vs))), ((xa 2), .inl (ct 1, 32, .inr (.inl vo))), ((xa 3), .inl (ct 4, 3, .inr (.inr (.inr (.inr (rw3 (xa 4) (xa 5) (xa 6))))))), ((xa 4), .inl (ct 1, 32, .inr (.inl k0))), ((xa 5), .inl (ct 1, 32, .inr (.inl k1))), ((xa 6), .inl (ct 1, 32, .inr (.inl k2))), ((xa 7), .inl (ct 1, 33, .inr (.inl pa9))), ((xa 8), .inl (ct 4, 4, .inr (.inr (.inr (.inr (rw4 (xa 9) (xa 10) (xa 11) (xa 12))))))), ((xa 9), .inl (ct 1, 33, .inr (.inl o0_1))), ((xa 10), .inl (ct 1, 33, .inr (.inl o1_1))), ((xa 11), .inl (ct 1, 33, .inr (.inl o2_1))), ((xa 12), .inl (ct 1, 33, .inr (.inl o3)))]) eo2_1 hx hb hE hP hD hS rfl rfl (by omega) (by decide) rfl d_Step_findBorder_102 (fun H locs hP hD hS => ?_)
    refine lv_iinc (v := 3) (lv' := [(6, .int 3), (9, .long ((mE (w_rg n b9)) - (mE (w_lf b9)))), (7, .long ((k2 (w_lf b9)) + (k2 (w_rg n b9)))), (5, .int (nI (w_rg n b9))), (4, .int (nI (w_lf b9))), (0, .ref (xa 0)), (1, .ref (ta 0)), (2, .int (nI b9)), (3, .int (nI t9))]) hx hb d_Step_findBorder_103 hl (k := 2) rfl (by decide) (by decide) rfl (fun ls hl => ?_)
    refine lv_goto (tgt := 32) hx hb d_Step_findBorder_106 (by decide) ?_
    refine lv_iload hx hb d_Step_findBorder_32 (lv_at hl 0 rfl) ?_
    refine lv_iconst (v := 2) hx hb d_Step_findBorder_34 (by decide) ?_
    refine lv_icmp_gt (tgt := 109) hx hb d_Step_findBorder_35 (by decide) (fun _ => ?_) (fun h => absurd h (by decide))
    refine lv_aload_n hx hb d_Step_findBorder_109 rfl (lv_at hl 5 rfl) ?_
    refine q_get 11 4 i_Step rfl hx hb hts hown hE hP rfl (by decide) x_248 rfl d_Step_findBorder_110 ?_
    refine lv_iconst (v := 3) hx hb d_Step_findBorder_113 (by decide) ?_
    refine q_aald (k := 3) (r := (xa 12)) 19 hx hb hE hP rfl rfl (by decide) (by decide) rfl d_Step_findBorder_114 ?_
    refine lv_iload_n hx hb d_Step_findBorder_115 rfl (lv_at hl 7 rfl) ?_
    refine lv_aload_n hx hb d_Step_findBorder_116 rfl (lv_at hl 6 rfl) ?_
    refine lv_iload hx hb d_Step_findBorder_117 (lv_at hl 4 rfl) ?_
    refine lv_iload hx hb d_Step_findBorder_119 (lv_at hl 3 rfl) ?_
    refine lv_aload_n hx hb d_Step_findBorder_121 rfl (lv_at hl 5 rfl) ?_
    refine q_get 11 4 i_Step rfl hx hb hts hown hE hP rfl (by decide) x_248 rfl d_Step_findBorder_122 ?_
    refine lv_iconst (v := 0) hx hb d_Step_findBorder_125 (by decide) ?_
    refine q_aald (k := 0) (r := (xa 9)) 19 hx hb hE hP rfl rfl (by decide) (by decide) rfl d_Step_findBorder_126 ?_
    refine lv_iload_n hx hb d_Step_findBorder_127 rfl (lv_at hl 7 rfl) ?_
    refine q_lald (k := b9) 20 hx hb hE hP rfl rfl (by omega) (by decide) d_Step_findBorder_128 ?_
    refine cRS (As := [.ref (ta 0), .int (nI (w_lf b9)), .int (nI (w_rg n b9)), .long (o0_1 b9)]) (rest := [.int (nI b9), .ref (xa 12)]) K_Step_fuelGoes x_542 hx hb hml hown hts hE hV hS (c_Step_fuelGoes l D ct st ta g ign part heat n lft rgt ns mM mP mE mF td cm gr gs (w_lf b9) (w_rg n b9) (o0_1 b9) (by omega) (by omega) (hk1.1.1) (hk2.1.1)) (hP.sub (ws' := [((ta 0), .inr (7, [.ref (ta 1), .int (nI n), .int (nI lft), .int (nI rgt), .int (nI ns), .ref (ta 2), .ref (ta 7), .ref (ta 8), .ref (ta 9), .ref (ta 10)])), ((ta 1), .inr (1, [.int (nI g), .int ign, .int part, .int heat])), ((ta 2), .inl (ct 4, 4, .inr (.inr (.inr (.inr (rw4 (ta 3) (ta 4) (ta 5) (ta 6))))))), ((ta 3), .inl (ct 1, 32, .inr (.inl mM))), ((ta 4), .inl (ct 1, 32, .inr (.inl mP))), ((ta 5), .inl (ct 1, 32, .inr (.inl mE))), ((ta 6), .inl (ct 1, 32, .inr (.inl mF))), ((ta 7), .inl (ct 1, 4, .inr (.inl td))), ((ta 8), .inl (ct 1, 6, .inr (.inl cm))), ((ta 9), .inl (ct 1, 32, .inr (.inl gr))), ((ta 10), .inl (ct 0, 32, .inl gs))]) [0, 1, 2, 3, 4, 5, 6, 7, 8, 9, 10] rfl) rfl hl.1 rfl (Nat.le_of_ble_eq_true rfl) d_Step_findBorder_129 (Nat.le_of_ble_eq_true rfl) (Nat.le_of_ble_eq_true rfl) ⟨Nat.le_of_ble_eq_true rfl, Nat.le_of_ble_eq_true rfl⟩ ?_
    obtain ⟨o3_1, eo3_1⟩ : ∃ g9 : Nat → Int64, g9 = vp_updL o3 b9 (w_fu mM mF (o0_1 b9) (w_lf b9) (w_rg n b9)) := ⟨_, rfl⟩
    refine q_last (k := b9) 23 (ws1 := [((ta 0), .inr (7, [.ref (ta 1), .int (nI n), .int (nI lft), .int (nI rgt), .int (nI ns), .ref (ta 2), .ref (ta 7), .ref (ta 8), .ref (ta 9), .ref (ta 10)])), ((ta 1), .inr (1, [.int (nI g), .int ign, .int part, .int heat])), ((ta 2), .inl (ct 4, 4, .inr (.inr (.inr (.inr (rw4 (ta 3) (ta 4) (ta 5) (ta 6))))))), ((ta 3), .inl (ct 1, 32, .inr (.inl mM))), ((ta 4), .inl (ct 1, 32, .inr (.inl mP))), ((ta 5), .inl (ct 1, 32, .inr (.inl mE))), ((ta 6), .inl (ct 1, 32, .inr (.inl mF))), ((ta 7), .inl (ct 1, 4, .inr (.inl td))), ((ta 8), .inl (ct 1, 6, .inr (.inl cm))), ((ta 9), .inl (ct 1, 32, .inr (.inl gr))), ((ta 10), .inl (ct 0, 32, .inl gs)), ((xa 0), .inr (5, [.ref (xa 1), .ref (xa 2), .ref (xa 3), .ref (xa 7), .ref (xa 8), .ref (xa 13), .ref (xa 18), .long bq])), ((xa 1), .inl (ct 1, 32, .inr (.inl vs))), ((xa 2), .inl (ct 1, 32, .inr (.inl vo))), ((xa 3), .inl (ct 4, 3, .inr (.inr (.inr (.inr (rw3 (xa 4) (xa 5) (xa 6))))))), ((xa 4), .inl (ct 1, 32, .inr (.inl k0))), ((xa 5), .inl (ct 1, 32, .inr (.inl k1))), ((xa 6), .inl (ct 1, 32, .inr (.inl k2))), ((xa 7), .inl (ct 1, 33, .inr (.inl pa9))), ((xa 8), .inl (ct 4, 4, .inr (.inr (.inr (.inr (rw4 (xa 9) (xa 10) (xa 11) (xa 12))))))), ((xa 9), .inl (ct 1, 33, .inr (.inl o0_1))), ((xa 10), .inl (ct 1, 33, .inr (.inl o1_1))), ((xa 11), .inl (ct 1, 33, .inr (.inl o2_1))), ((xa 12), .inl (ct 1, 33, .inr (.inl o3_1)))]) eo3_1 hx hb hE hP hD hS rfl rfl (by omega) (by decide) rfl d_Step_findBorder_132 (fun H locs hP hD hS => ?_)
    exact rW_v hx hb hr hlk hAe hS hP hD (Nat.le_of_ble_eq_true rfl) (Nat.le_of_ble_eq_true rfl) d_Step_findBorder_133 ⟨o0_1, o1_1, o2_1, o3_1, rfl, rfl, bd_open h_18 hL h1 h2 hpc eo0_1 eo1_1 eo2_1 eo3_1⟩
  · refine lv_aload_n hx hb d_Step_findBorder_21 rfl (lv_at hl 2 rfl) ?_
    refine lv_aload_n hx hb d_Step_findBorder_22 rfl (lv_at hl 3 rfl) ?_
    refine lv_iload_n hx hb d_Step_findBorder_23 rfl (lv_at hl 4 rfl) ?_
    refine lv_iload_n hx hb d_Step_findBorder_24 rfl (lv_at hl 5 rfl) ?_
    refine cWV (As := [.ref (ta 0), .int (nI b9), .int (nI t9)]) (rest := []) (q9 := 11) (ci := 5) K_Step_findWall x_531 hx hb hml hown hts hE hV hS (c_Step_findWall l D ct st ta g ign part heat n lft rgt ns mM mP mE mF td cm gr gs xa bq k0 k1 k2 pa9 o0 o1 o2 o3 b9 t9 (by omega) (by omega) (by omega) (by omega) _) hP hD hA [0, 1, 2, 3, 4, 5, 6, 7, 8, 9, 10, 11, 14, 15, 16, 17, 18, 19, 20, 21, 22, 23] [12, 13] (wr := [((xa 1), .inl (ct 1, 32, .inr (.inl vs))), ((xa 2), .inl (ct 1, 32, .inr (.inl vo)))]) rfl rfl (by decide) (by decide) (by decide) rfl hP rfl rfl hl.1 rfl (Nat.le_of_ble_eq_true rfl) d_Step_findBorder_25 (Nat.le_of_ble_eq_true rfl) (Nat.le_of_ble_eq_true rfl) ⟨Nat.le_of_ble_eq_true rfl, Nat.le_of_ble_eq_true rfl⟩ (fun v W1 H locs hpost hP hD hS => ?_)
    obtain ⟨o01_1, o11_1, o21_1, o31_1, rfl, rfl, hq_25⟩ := hpost
    have hP : va_P D classes [((xa 1), .inl (ct 1, 32, .inr (.inl vs))), ((xa 2), .inl (ct 1, 32, .inr (.inl vo))), ((ta 0), .inr (7, [.ref (ta 1), .int (nI n), .int (nI lft), .int (nI rgt), .int (nI ns), .ref (ta 2), .ref (ta 7), .ref (ta 8), .ref (ta 9), .ref (ta 10)])), ((ta 1), .inr (1, [.int (nI g), .int ign, .int part, .int heat])), ((ta 2), .inl (ct 4, 4, .inr (.inr (.inr (.inr (rw4 (ta 3) (ta 4) (ta 5) (ta 6))))))), ((ta 3), .inl (ct 1, 32, .inr (.inl mM))), ((ta 4), .inl (ct 1, 32, .inr (.inl mP))), ((ta 5), .inl (ct 1, 32, .inr (.inl mE))), ((ta 6), .inl (ct 1, 32, .inr (.inl mF))), ((ta 7), .inl (ct 1, 4, .inr (.inl td))), ((ta 8), .inl (ct 1, 6, .inr (.inl cm))), ((ta 9), .inl (ct 1, 32, .inr (.inl gr))), ((ta 10), .inl (ct 0, 32, .inl gs)), ((xa 0), .inr (5, [.ref (xa 1), .ref (xa 2), .ref (xa 3), .ref (xa 7), .ref (xa 8), .ref (xa 13), .ref (xa 18), .long bq])), ((xa 3), .inl (ct 4, 3, .inr (.inr (.inr (.inr (rw3 (xa 4) (xa 5) (xa 6))))))), ((xa 4), .inl (ct 1, 32, .inr (.inl k0))), ((xa 5), .inl (ct 1, 32, .inr (.inl k1))), ((xa 6), .inl (ct 1, 32, .inr (.inl k2))), ((xa 7), .inl (ct 1, 33, .inr (.inl pa9))), ((xa 8), .inl (ct 4, 4, .inr (.inr (.inr (.inr (rw4 (xa 9) (xa 10) (xa 11) (xa 12))))))), ((xa 9), .inl (ct 1, 33, .inr (.inl o01_1))), ((xa 10), .inl (ct 1, 33, .inr (.inl o11_1))), ((xa 11), .inl (ct 1, 33, .inr (.inl o21_1))), ((xa 12), .inl (ct 1, 33, .inr (.inl o31_1)))] H := hP
    have hD : va_D A [((xa 1), .inl (ct 1, 32, .inr (.inl vs))), ((xa 2), .inl (ct 1, 32, .inr (.inl vo))), ((ta 0), .inr (7, [.ref (ta 1), .int (nI n), .int (nI lft), .int (nI rgt), .int (nI ns), .ref (ta 2), .ref (ta 7), .ref (ta 8), .ref (ta 9), .ref (ta 10)])), ((ta 1), .inr (1, [.int (nI g), .int ign, .int part, .int heat])), ((ta 2), .inl (ct 4, 4, .inr (.inr (.inr (.inr (rw4 (ta 3) (ta 4) (ta 5) (ta 6))))))), ((ta 3), .inl (ct 1, 32, .inr (.inl mM))), ((ta 4), .inl (ct 1, 32, .inr (.inl mP))), ((ta 5), .inl (ct 1, 32, .inr (.inl mE))), ((ta 6), .inl (ct 1, 32, .inr (.inl mF))), ((ta 7), .inl (ct 1, 4, .inr (.inl td))), ((ta 8), .inl (ct 1, 6, .inr (.inl cm))), ((ta 9), .inl (ct 1, 32, .inr (.inl gr))), ((ta 10), .inl (ct 0, 32, .inl gs)), ((xa 0), .inr (5, [.ref (xa 1), .ref (xa 2), .ref (xa 3), .ref (xa 7), .ref (xa 8), .ref (xa 13), .ref (xa 18), .long bq])), ((xa 3), .inl (ct 4, 3, .inr (.inr (.inr (.inr (rw3 (xa 4) (xa 5) (xa 6))))))), ((xa 4), .inl (ct 1, 32, .inr (.inl k0))), ((xa 5), .inl (ct 1, 32, .inr (.inl k1))), ((xa 6), .inl (ct 1, 32, .inr (.inl k2))), ((xa 7), .inl (ct 1, 33, .inr (.inl pa9))), ((xa 8), .inl (ct 4, 4, .inr (.inr (.inr (.inr (rw4 (xa 9) (xa 10) (xa 11) (xa 12))))))), ((xa 9), .inl (ct 1, 33, .inr (.inl o01_1))), ((xa 10), .inl (ct 1, 33, .inr (.inl o11_1))), ((xa 11), .inl (ct 1, 33, .inr (.inl o21_1))), ((xa 12), .inl (ct 1, 33, .inr (.inl o31_1)))] := hD
    exact rW_v hx hb hr hlk hAe hS (hP.sub (ws' := [((ta 0), .inr (7, [.ref (ta 1), .int (nI n), .int (nI lft), .int (nI rgt), .int (nI ns), .ref (ta 2), .ref (ta 7), .ref (ta 8), .ref (ta 9), .ref (ta 10)])), ((ta 1), .inr (1, [.int (nI g), .int ign, .int part, .int heat])), ((ta 2), .inl (ct 4, 4, .inr (.inr (.inr (.inr (rw4 (ta 3) (ta 4) (ta 5) (ta 6))))))), ((ta 3), .inl (ct 1, 32, .inr (.inl mM))), ((ta 4), .inl (ct 1, 32, .inr (.inl mP))), ((ta 5), .inl (ct 1, 32, .inr (.inl mE))), ((ta 6), .inl (ct 1, 32, .inr (.inl mF))), ((ta 7), .inl (ct 1, 4, .inr (.inl td))), ((ta 8), .inl (ct 1, 6, .inr (.inl cm))), ((ta 9), .inl (ct 1, 32, .inr (.inl gr))), ((ta 10), .inl (ct 0, 32, .inl gs)), ((xa 0), .inr (5, [.ref (xa 1), .ref (xa 2), .ref (xa 3), .ref (xa 7), .ref (xa 8), .ref (xa 13), .ref (xa 18), .long bq])), ((xa 1), .inl (ct 1, 32, .inr (.inl vs))), ((xa 2), .inl (ct 1, 32, .inr (.inl vo))), ((xa 3), .inl (ct 4, 3, .inr (.inr (.inr (.inr (rw3 (xa 4) (xa 5) (xa 6))))))), ((xa 4), .inl (ct 1, 32, .inr (.inl k0))), ((xa 5), .inl (ct 1, 32, .inr (.inl k1))), ((xa 6), .inl (ct 1, 32, .inr (.inl k2))), ((xa 7), .inl (ct 1, 33, .inr (.inl pa9))), ((xa 8), .inl (ct 4, 4, .inr (.inr (.inr (.inr (rw4 (xa 9) (xa 10) (xa 11) (xa 12))))))), ((xa 9), .inl (ct 1, 33, .inr (.inl o01_1))), ((xa 10), .inl (ct 1, 33, .inr (.inl o11_1))), ((xa 11), .inl (ct 1, 33, .inr (.inl o21_1))), ((xa 12), .inl (ct 1, 33, .inr (.inl o31_1)))]) [2, 3, 4, 5, 6, 7, 8, 9, 10, 11, 12, 13, 0, 1, 14, 15, 16, 17, 18, 19, 20, 21, 22, 23] rfl) (hD.sub (ws' := [((ta 0), .inr (7, [.ref (ta 1), .int (nI n), .int (nI lft), .int (nI rgt), .int (nI ns), .ref (ta 2), .ref (ta 7), .ref (ta 8), .ref (ta 9), .ref (ta 10)])), ((ta 1), .inr (1, [.int (nI g), .int ign, .int part, .int heat])), ((ta 2), .inl (ct 4, 4, .inr (.inr (.inr (.inr (rw4 (ta 3) (ta 4) (ta 5) (ta 6))))))), ((ta 3), .inl (ct 1, 32, .inr (.inl mM))), ((ta 4), .inl (ct 1, 32, .inr (.inl mP))), ((ta 5), .inl (ct 1, 32, .inr (.inl mE))), ((ta 6), .inl (ct 1, 32, .inr (.inl mF))), ((ta 7), .inl (ct 1, 4, .inr (.inl td))), ((ta 8), .inl (ct 1, 6, .inr (.inl cm))), ((ta 9), .inl (ct 1, 32, .inr (.inl gr))), ((ta 10), .inl (ct 0, 32, .inl gs)), ((xa 0), .inr (5, [.ref (xa 1), .ref (xa 2), .ref (xa 3), .ref (xa 7), .ref (xa 8), .ref (xa 13), .ref (xa 18), .long bq])), ((xa 1), .inl (ct 1, 32, .inr (.inl vs))), ((xa 2), .inl (ct 1, 32, .inr (.inl vo))), ((xa 3), .inl (ct 4, 3, .inr (.inr (.inr (.inr (rw3 (xa 4) (xa 5) (xa 6))))))), ((xa 4), .inl (ct 1, 32, .inr (.inl k0))), ((xa 5), .inl (ct 1, 32, .inr (.inl k1))), ((xa 6), .inl (ct 1, 32, .inr (.inl k2))), ((xa 7), .inl (ct 1, 33, .inr (.inl pa9))), ((xa 8), .inl (ct 4, 4, .inr (.inr (.inr (.inr (rw4 (xa 9) (xa 10) (xa 11) (xa 12))))))), ((xa 9), .inl (ct 1, 33, .inr (.inl o01_1))), ((xa 10), .inl (ct 1, 33, .inr (.inl o11_1))), ((xa 11), .inl (ct 1, 33, .inr (.inl o21_1))), ((xa 12), .inl (ct 1, 33, .inr (.inl o31_1)))]) [2, 3, 4, 5, 6, 7, 8, 9, 10, 11, 12, 13, 0, 1, 14, 15, 16, 17, 18, 19, 20, 21, 22, 23] (by decide) rfl) (Nat.le_of_ble_eq_true rfl) (Nat.le_of_ble_eq_true rfl) d_Step_findBorder_28 ⟨o01_1, o11_1, o21_1, o31_1, rfl, rfl, bd_wall hn2 hb9 hok h_18 hL h1 hpc hq_25⟩
