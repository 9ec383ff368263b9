/-! the laws of gases, in numbers -/
def w_within (m p e : Int64) : Int64 := e - fd (p * p) (2 * m)
def w_pres (g : Nat) (w : Int64) : Int64 := if g = 0 then fd (2 * w) 5 else if g = 1 then fd (2 * w) 3 else fd w 3
def w_times (g : Nat) : Int64 := if g = 0 then 7 else if g = 1 then 5 else 4
def w_by (g : Nat) : Int64 := if g = 0 then 5 else 3
theorem w_by_pos (g : Nat) : 0 < (w_by g).toInt := by
  unfold w_by
  split <;> decide
theorem pos2 {m : Int64} (h : 1 ≤ m.toInt ∧ m.toInt ≤ 1000000) : 0 < (2 * m).toInt := by
  rw [fb_mulL (x := 2) (y := m) (by show _ ≤ 2 * m.toInt; omega) (by show 2 * m.toInt < _; omega)]
  show 0 < 2 * m.toInt
  omega
theorem g3 {g : Nat} (h : g < 3) : g = 0 ∨ g = 1 ∨ g = 2 := by omega
theorem tb1_pos {g : Nat} (h : g < 3) : 0 < (sv_tb 1 g).toInt64.toInt := by rcases g3 h with rfl | rfl | rfl <;> decide
theorem tb3_pos {g : Nat} (h : g < 3) : 0 < (sv_tb 3 g).toInt64.toInt := by rcases g3 h with rfl | rfl | rfl <;> decide
theorem pres_tb {g : Nat} (h : g < 3) (w : Int64) : fd (w * (sv_tb 0 g).toInt64) (sv_tb 1 g).toInt64 = w_pres g w := by
  rcases g3 h with rfl | rfl | rfl
  · show fd (w * 2) 5 = fd (2 * w) 5; rw [Int64.mul_comm]
  · show fd (w * 2) 3 = fd (2 * w) 3; rw [Int64.mul_comm]
  · show fd (w * 1) 3 = fd w 3; rw [Int64.mul_one]
/-- the root: the greatest whole number whose square is not above (0 below 0) -/
def IsRt (v : Int64) (r : Nat) : Prop := (v.toInt < 0 ∧ r = 0) ∨ (((r * r : Nat) : Int) ≤ v.toInt ∧ v.toInt < (((r + 1) * (r + 1) : Nat) : Int))
theorem IsRt.one {v : Int64} {r q : Nat} (h : IsRt v r) (k : IsRt v q) : r = q := by
  rcases h with ⟨h1, h2⟩ | ⟨h1, h2⟩ <;> rcases k with ⟨k1, k2⟩ | ⟨k1, k2⟩
  · omega
  · have : (0 : Int) ≤ ((q * q : Nat) : Int) := Int.natCast_nonneg _
    omega
  · have : (0 : Int) ≤ ((r * r : Nat) : Int) := Int.natCast_nonneg _
    omega
  · have a1 : r * r < (q + 1) * (q + 1) := by omega
    have a2 : q * q < (r + 1) * (r + 1) := by omega
    have b1 := Nat.mul_self_lt_mul_self_iff.mp a1
    have b2 := Nat.mul_self_lt_mul_self_iff.mp a2
    omega
noncomputable def rt (v : Int64) : Int64 := @dite _ (∃ r, IsRt v r) (Classical.propDecidable _) (fun h => lN (Classical.choose h)) (fun _ => 0)
theorem rt_of {v : Int64} {r : Nat} (h : IsRt v r) : lN r = rt v := by
  have hx : ∃ r, IsRt v r := ⟨r, h⟩
  unfold rt
  rw [dif_pos hx, IsRt.one h (Classical.choose_spec hx)]
def RI (v : Int64) (f k : Nat) : Prop := f + 2 ^ k ≤ 2 ^ 27 ∧ ((v.toInt < 0 ∧ f = 0) ∨ (((f * f : Nat) : Int) ≤ v.toInt ∧ v.toInt < (((f + 2 ^ k) * (f + 2 ^ k) : Nat) : Int)))
theorem pw_split {k : Nat} (hk : 0 < k) : 2 ^ k = 2 ^ k / 2 + 2 ^ k / 2 ∧ 2 ^ k / 2 = 2 ^ (k - 1) := by
  obtain ⟨j, rfl⟩ : ∃ j, k = j + 1 := ⟨k - 1, by omega⟩
  rw [Nat.pow_succ, Nat.add_sub_cancel]
  omega
theorem RI_0 {v : Int64} (h : v.toInt < 18014398509481984) : RI v 0 27 := by
  refine ⟨by decide, ?_⟩
  rcases Int.lt_or_le v.toInt 0 with z | z
  · exact Or.inl ⟨z, rfl⟩
  · exact Or.inr ⟨z, h⟩
theorem lN_mulv {a : Nat} {v : Int64} (h : a ≤ 2 ^ 27) : v < lN a * lN a ↔ v.toInt < ((a * a : Nat) : Int) := by
  have : a * a ≤ 2 ^ 27 * 2 ^ 27 := Nat.mul_le_mul h h
  rw [lN_mul, Int64.lt_iff_toInt_lt, pk_lT (by omega)]
theorem RI_yes {v : Int64} {f k : Nat} (hk : 0 < k) (h : RI v f k) (c : ¬ v < lN (f + 2 ^ k / 2) * lN (f + 2 ^ k / 2)) : RI v (f + 2 ^ k / 2) (k - 1) := by
  obtain ⟨h1, h2⟩ := h
  obtain ⟨e1, e2⟩ := pw_split hk
  have e3 := Nat.two_pow_pos (k - 1)
  rw [lN_mulv (by omega)] at c
  refine ⟨by omega, Or.inr ⟨by omega, ?_⟩⟩
  rcases h2 with ⟨h2, h3⟩ | ⟨h2, h3⟩
  · have : (0 : Int) ≤ (((f + 2 ^ k / 2) * (f + 2 ^ k / 2) : Nat) : Int) := Int.natCast_nonneg _
    omega
  · rw [← e2, show f + 2 ^ k / 2 + 2 ^ k / 2 = f + 2 ^ k by omega]
    exact h3
theorem RI_no {v : Int64} {f k : Nat} (hk : 0 < k) (h : RI v f k) (c : v < lN (f + 2 ^ k / 2) * lN (f + 2 ^ k / 2)) : RI v f (k - 1) := by
  obtain ⟨h1, h2⟩ := h
  obtain ⟨e1, e2⟩ := pw_split hk
  have e3 := Nat.two_pow_pos (k - 1)
  rw [lN_mulv (by omega)] at c
  refine ⟨by omega, ?_⟩
  rcases h2 with ⟨h2, h3⟩ | ⟨h2, h3⟩
  · exact Or.inl ⟨h2, h3⟩
  · refine Or.inr ⟨h2, ?_⟩
    rw [← e2]
    exact c
theorem RI_end {v : Int64} {f k : Nat} (h : RI v f k) (hk : lN (2 ^ k / 2) ≤ 0) : lN f = rt v := by
  obtain ⟨h1, h2⟩ := h
  have hk0 : k = 0 := by
    rcases Nat.eq_zero_or_pos k with z | z
    · exact z
    · obtain ⟨e1, e2⟩ := pw_split z
      have h5 : 0 < 2 ^ (k - 1) := Nat.two_pow_pos _
      rw [show (0 : Int64) = lN 0 from rfl, pk_lLE (by omega) (by decide)] at hk
      omega
  subst hk0
  apply rt_of
  rcases h2 with h2 | h2
  · exact Or.inl h2
  · exact Or.inr h2
theorem RI_pos {k : Nat} (h27 : k ≤ 27) (h : ¬ lN (2 ^ k / 2) ≤ 0) : 0 < k := by
  rcases Nat.eq_zero_or_pos k with z | z
  · subst z
    exact absurd (by decide) h
  · exact z
theorem RI_le {v : Int64} {f k : Nat} (h : RI v f k) : k ≤ 27 := by
  have h1 := h.1
  rcases Nat.lt_or_ge 27 k with z | z
  · have := Nat.pow_lt_pow_right (show 1 < 2 by decide) z
    omega
  · exact z
theorem shr_tab : ∀ k, k < 28 → 0 < k → lN (2 ^ k / 2) >>> ((1 : Int32).toInt64 &&& 63) = lN (2 ^ (k - 1) / 2) := by decide +kernel
/-- the other search for it -/
def RJ (v : Int64) (a h : Nat) : Prop := a ≤ h ∧ h ≤ 3000000000 ∧ (((a * a : Nat) : Int) ≤ v.toInt ∨ (v.toInt < 0 ∧ a = 0)) ∧ v.toInt < (((h + 1) * (h + 1) : Nat) : Int)
theorem RJ_0 {v : Int64} (h : v.toInt < 18014398509481984) : RJ v 0 3000000000 := by
  refine ⟨by decide, Nat.le_refl _, ?_, ?_⟩
  · rcases Int.lt_or_le v.toInt 0 with z | z
    · exact Or.inr ⟨z, rfl⟩
    · exact Or.inl z
  · show v.toInt < 9000000006000000001
    omega
theorem lN_mulw {a : Nat} {v : Int64} (h : a ≤ 3000000000) : v < lN a * lN a ↔ v.toInt < ((a * a : Nat) : Int) := by
  have : a * a ≤ 3000000000 * 3000000000 := Nat.mul_le_mul h h
  rw [lN_mul, Int64.lt_iff_toInt_lt, pk_lT (by omega)]
theorem RJ_yes {v : Int64} {a h : Nat} (k : RJ v a h) (c0 : a < h) (c : ¬ v < lN ((a + h + 1) / 2) * lN ((a + h + 1) / 2)) : RJ v ((a + h + 1) / 2) h := by
  obtain ⟨k1, k2, k3, k4⟩ := k
  rw [lN_mulw (by omega)] at c
  exact ⟨by omega, k2, Or.inl (by omega), k4⟩
theorem RJ_no {v : Int64} {a h : Nat} (k : RJ v a h) (c0 : a < h) (c : v < lN ((a + h + 1) / 2) * lN ((a + h + 1) / 2)) : RJ v a ((a + h + 1) / 2 - 1) := by
  obtain ⟨k1, k2, k3, k4⟩ := k
  rw [lN_mulw (by omega)] at c
  refine ⟨by omega, by omega, k3, ?_⟩
  rw [show (a + h + 1) / 2 - 1 + 1 = (a + h + 1) / 2 by omega]
  exact c
theorem RJ_end {v : Int64} {a h : Nat} (k : RJ v a h) (c : ¬ a < h) : lN a = rt v := by
  obtain ⟨k1, k2, k3, k4⟩ := k
  have : h = a := by omega
  subst this
  apply rt_of
  rcases k3 with k3 | k3
  · exact Or.inr ⟨k3, k4⟩
  · exact Or.inl k3
theorem lN_lt3 {a b : Nat} (ha : a ≤ 3000000000) (hb : b ≤ 3000000000) : lN b ≤ lN a ↔ b ≤ a := pk_lLE (by omega) (by omega)
theorem lN_half (a : Nat) (h : a ≤ 9000000000) : lN a / 2 = lN (a / 2) := pk_lDiv (a := a) (b := 2) (by omega) (by decide) (by decide)
/-- the sound: the root of k times the pressure, times 1000000, by the mass -/
noncomputable def w_sound (g : Nat) (m pr : Int64) : Int64 := rt (fd (fd (pr * w_times g * 1000000) m) (w_by g))
theorem snd_tb {g : Nat} (h : g < 3) (m pr : Int64) : fd (fd (pr * (sv_tb 2 g).toInt64 * 1000000) m) (sv_tb 3 g).toInt64 = fd (fd (pr * w_times g * 1000000) m) (w_by g) := by
  rcases g3 h with rfl | rfl | rfl <;> rfl
theorem snd_rng {g : Nat} (h : g < 3) {m pr : Int64} (hm : 1 ≤ m.toInt) (hp : 0 ≤ pr.toInt ∧ pr.toInt ≤ 1000000000) : (fd (fd (pr * w_times g * 1000000) m) (w_by g)).toInt < 18014398509481984 := by
  have ht : 4 ≤ (w_times g).toInt ∧ (w_times g).toInt ≤ 7 := by rcases g3 h with rfl | rfl | rfl <;> decide
  have h1 : (pr * w_times g).toInt = pr.toInt * (w_times g).toInt := by
    have a1 : 0 ≤ pr.toInt * (w_times g).toInt := Int.mul_nonneg (by omega) (by omega)
    have a2 : pr.toInt * (w_times g).toInt ≤ 1000000000 * 7 := Int.mul_le_mul hp.2 ht.2 (by omega) (by omega)
    exact fb_mulL (by omega) (by omega)
  have a1 : 0 ≤ pr.toInt * (w_times g).toInt := Int.mul_nonneg (by omega) (by omega)
  have a2 : pr.toInt * (w_times g).toInt ≤ 1000000000 * 7 := Int.mul_le_mul hp.2 ht.2 (by omega) (by omega)
  have h2 : (pr * w_times g * 1000000).toInt = pr.toInt * (w_times g).toInt * 1000000 := by
    rw [fb_mulL (y := 1000000) (by rw [h1]; show _ ≤ _ * 1000000; omega) (by rw [h1]; show _ * 1000000 < _; omega), h1]
    rfl
  have h3 : (fd (pr * w_times g * 1000000) m).toInt ≤ pr.toInt * (w_times g).toInt * 1000000 := by
    rw [fd_toInt (by omega), h2]
    exact Int.ediv_le_self _ (by omega)
  have h4 : 0 ≤ (fd (pr * w_times g * 1000000) m).toInt := by
    rw [fd_toInt (by omega), h2]
    exact Int.ediv_nonneg (by omega) (by omega)
  rw [fd_toInt (w_by_pos g)]
  have h5 := Int.ediv_le_self (w_by g).toInt h4
  omega
def w_in (v a b : Int64) : Prop := a ≤ v ∧ v ≤ b
def w_sz (v : Int64) : Int64 := if v < 0 then -v else v
theorem abL_sz (v : Int64) : abL v = w_sz v := by
  unfold abL w_sz
  rcases Int.lt_trichotomy v.toInt 0 with h | h | h
  · rw [if_neg, if_pos]
    · rw [lt0]; exact h
    · rw [Int64.lt_iff_toInt_lt]; show ¬ 0 < v.toInt; omega
  · have : v = 0 := by rw [← Int64.toInt_inj, h]; rfl
    subst this
    rfl
  · rw [if_pos, if_neg]
    · rw [lt0]; omega
    · rw [Int64.lt_iff_toInt_lt]; exact h
def w_over (t su fast more : Int64) : Int64 := fd (t * (1000 * su - fast * more)) 2000000
def w_gr (v : Int64) : Int32 := if 2147483647 < v then 2147483647 else v.toInt32
theorem mn_gr (v : Int64) : (mnL v 2147483647).toInt32 = w_gr v := by
  unfold mnL w_gr
  split <;> rfl
def w_held (v : Int64) : Int64 := if 900 < v then 900 else if v < -900 then -900 else v

theorem enterRF {y : MethodName} {b : ByteArray} {n : Nat} {r : Option FieldType} {l : Launch} {f lo : Nat} {D : va_G} {ct : Nat → ClassId} {st : Nat → Nat} {av : List Value} {W0 : va_W} {rv : Value} (hy : plainFor y = true) (hN : (lg_sl av).length ≤ n)
    (body : ∀ (p : Program) (e : Env) (s : State) (m : MethodId) (args : Array Value) (below : List Frame) (meth : Method) (c : Code) (ls : Array Slot), p.tables.exec = Jvm.exec → c.code = b → meth.sig.returnType = r → c.maxLocals = n → s.vm.findClass y.cls = some m.cls → (∀ w ∈ Cond.code y b n r :: wd, w.before args s = true) → meth.locks = false →
      va_P D classes W0 s.heap → EV D ct s → SV st (fun _ => False) s s.heap → va_S (fun _ => False) s.heap s.heap [] → lv_has ls n (lv_args 0 av) → W p l e (k2_rm f lo) s m args below meth c s.heap [] 0 0 (MQ below (k2_QcV rv) args s 0 0 (fun _ => False)) (F0 m 0 ls [])) :
    Met l y (wsy y b n r) (k2_rm f lo) (PcR D ct st av W0) (k2_QcV rv) 0 0 (fun _ => False) := by
  refine va_MetF (cc := b) (maxL := n) (ret := r) hy rfl ?_
  intro p e s m args below meth c s₁ B hml hv
  obtain ⟨rfl, hP, hE, hV⟩ := hv
  have hl := lv_entry av (n := n) hN
  have key := body p e s m av.toArray below meth c ((lg_sl av ++ List.replicate (n - (lg_sl av).length) Slot.unset).toArray) B.exec B.bytes B.returns hml (findClass_of_methodNamed B.named) (atoms_spec (ws := Cond.code y b n r :: wd) B.pre) B.notSynchronized hP hE hV va_S.rf hl
  rw [lg_entry_eq]
  exact key

set_option maxHeartbeats 4000000 in
set_option maxRecDepth 100000 in
/-- Math.floorDiv, by a divisor above 0 -/
theorem c_Math_floorDiv (l : Launch) (D : va_G) (ct : Nat → ClassId) (st : Nat → Nat) (x : Int64) (y : Int64) (hy : 0 < y.toInt) : Met l y_Math_floorDiv (wsy y_Math_floorDiv b_Math_floorDiv 6 (some .long)) (k2_rm 0 0) (PcR D ct st [.long x, .long y] []) (k2_QcV (.long (fd x y))) 0 0 (fun _ => False) := by
  refine enterRF (by decide +kernel) (Nat.le_of_ble_eq_true rfl) ?_
  intro p e s m args below meth c ls hx hb hr hml hown hts hlk hP hE hV hS hl
  have hl : lv_has ls 6 [(0, .long x), (2, .long y)] := hl
  refine lv_lload_n hx hb d_Math_floorDiv_0 rfl (lv_at hl 0 rfl) ?_
  refine lv_lload_n hx hb d_Math_floorDiv_1 rfl (lv_at hl 1 rfl) ?_
  refine lv_ldiv hx hb d_Math_floorDiv_2 (ne0 hy) ?_
  refine lv_lstore (lv' := [(4, .long (x / y)), (0, .long x), (2, .long y)]) hx hb d_Math_floorDiv_3 hl (by decide) rfl (fun ls hl => ?_)
  refine lv_lload_n hx hb d_Math_floorDiv_5 rfl (lv_at hl 1 rfl) ?_
  refine lv_lload_n hx hb d_Math_floorDiv_6 rfl (lv_at hl 2 rfl) ?_
  refine lv_lxor hx hb d_Math_floorDiv_7 ?_
  refine lv_lconst (v := 0) hx hb d_Math_floorDiv_8 (by decide) ?_
  refine W.lcmp hx hb d_Math_floorDiv_9 ?_
  refine q_cmp_ge (tgt := 27) hx hb d_Math_floorDiv_10 (by decide) (fun h_10 => ?_) (fun h_10 => ?_)
  · refine lv_lload hx hb d_Math_floorDiv_27 (lv_at hl 0 rfl) ?_
    exact rR_l hx hb hr hlk d_Math_floorDiv_29 (by first | exact fdm_fl hy (Int64.not_lt.mpr h_10) | exact fd_ex hy h_19)
  · refine lv_lload hx hb d_Math_floorDiv_13 (lv_at hl 0 rfl) ?_
    refine lv_lload_n hx hb d_Math_floorDiv_15 rfl (lv_at hl 2 rfl) ?_
    refine lv_lmul hx hb d_Math_floorDiv_16 ?_
    refine lv_lload_n hx hb d_Math_floorDiv_17 rfl (lv_at hl 1 rfl) ?_
    refine W.lcmp hx hb d_Math_floorDiv_18 ?_
    refine q_cmp_eq (tgt := 27) hx hb d_Math_floorDiv_19 (by decide) (fun h_19 => ?_) (fun h_19 => ?_)
    · refine lv_lload hx hb d_Math_floorDiv_27 (lv_at hl 0 rfl) ?_
      exact rR_l hx hb hr hlk d_Math_floorDiv_29 (by first | exact fdm_fl hy (Int64.not_lt.mpr h_10) | exact fd_ex hy h_19)
    · refine lv_lload hx hb d_Math_floorDiv_22 (lv_at hl 0 rfl) ?_
      refine lv_lconst (v := 1) hx hb d_Math_floorDiv_24 (by decide) ?_
      refine lv_lsub hx hb d_Math_floorDiv_25 ?_
      exact rR_l hx hb hr hlk d_Math_floorDiv_26 (fd_lt hy (fdm_neg hy (Int64.not_le.mp h_10)) h_19)
def x_in (v a b : Int32) : Prop := a ≤ v ∧ v ≤ b
set_option maxHeartbeats 4000000 in
set_option maxRecDepth 100000 in
theorem c_X_isFrom (l : Launch) (D : va_G) (ct : Nat → ClassId) (st : Nat → Nat) (vv : Int32) (x : Int32) (y : Int32) : Met l y_X_isFrom (wsy y_X_isFrom b_X_isFrom 3 (some .boolean)) (k2_rm 0 0) (PcR D ct st [.int vv, .int x, .int y] []) (k2_QcV (.int (bI (x_in vv x y)))) 0 0 (fun _ => False) := by
  refine enterR (by decide) (Nat.le_of_ble_eq_true rfl) ?_
  intro p e s m args below meth c ls hx hb hr hml hown hts hlk hP hE hV hS hl
  have hl : lv_has ls 3 [(0, .int vv), (1, .int x), (2, .int y)] := hl
  refine lv_iload_n hx hb d_X_isFrom_0 rfl (lv_at hl 0 rfl) ?_
  refine lv_iload_n hx hb d_X_isFrom_1 rfl (lv_at hl 1 rfl) ?_
  refine lv_icmp_lt (tgt := 14) hx hb d_X_isFrom_2 (by decide) (fun h_2 => ?_) (fun h_2 => ?_)
  · refine lv_iconst (v := 0) hx hb d_X_isFrom_14 (by decide) ?_
    exact rR_z hx hb hr hlk d_X_isFrom_15 (bI_0 (by first | exact ⟨Int32.not_lt.mp h_2, Int32.not_lt.mp h_7⟩ | exact fun z => absurd h_2 (Int32.not_lt.mpr z.1) | exact fun z => absurd h_7 (Int32.not_lt.mpr z.2)))
  · refine lv_iload_n hx hb d_X_isFrom_5 rfl (lv_at hl 0 rfl) ?_
    refine lv_iload_n hx hb d_X_isFrom_6 rfl (lv_at hl 2 rfl) ?_
    refine lv_icmp_gt (tgt := 14) hx hb d_X_isFrom_7 (by decide) (fun h_7 => ?_) (fun h_7 => ?_)
    · refine lv_iconst (v := 0) hx hb d_X_isFrom_14 (by decide) ?_
      exact rR_z hx hb hr hlk d_X_isFrom_15 (bI_0 (by first | exact ⟨Int32.not_lt.mp h_2, Int32.not_lt.mp h_7⟩ | exact fun z => absurd h_2 (Int32.not_lt.mpr z.1) | exact fun z => absurd h_7 (Int32.not_lt.mpr z.2)))
    · refine lv_iconst (v := 1) hx hb d_X_isFrom_10 (by decide) ?_
      refine lv_goto (tgt := 15) hx hb d_X_isFrom_11 (by decide) ?_
      exact rR_z hx hb hr hlk d_X_isFrom_15 (bI_1 (by first | exact ⟨Int32.not_lt.mp h_2, Int32.not_lt.mp h_7⟩ | exact fun z => absurd h_2 (Int32.not_lt.mpr z.1) | exact fun z => absurd h_7 (Int32.not_lt.mpr z.2)))
set_option maxHeartbeats 4000000 in
set_option maxRecDepth 100000 in
theorem c_X_toInt (l : Launch) (D : va_G) (ct : Nat → ClassId) (st : Nat → Nat) (vv : Int64) : Met l y_X_toInt (wsy y_X_toInt b_X_toInt 2 (some .int)) (k2_rm 1 15) (PcR D ct st [.long vv] []) (k2_QcV (.int (w_gr vv))) 0 0 (fun _ => False) := by
  refine enterR (by decide) (Nat.le_of_ble_eq_true rfl) ?_
  intro p e s m args below meth c ls hx hb hr hml hown hts hlk hP hE hV hS hl
  have hl : lv_has ls 2 [(0, .long vv)] := hl
  refine lv_lload_n hx hb d_X_toInt_0 rfl (lv_at hl 0 rfl) ?_
  refine lv_ldc2 (v := 2147483647) hx hb hown (hts _ (List.mem_cons_of_mem _ x_603)) d_X_toInt_1 ?_
  refine va_mmin_long hx hb (by rw [hml]; exact hl.1.symm) hown (hts _ (List.mem_cons_of_mem _ x_604)) (hts _ (List.mem_cons_of_mem _ x_549)) (hts _ (List.mem_cons_of_mem _ x_13)) (hts _ (List.mem_cons_of_mem _ x_550)) (Nat.le_of_ble_eq_true rfl) (Nat.le_of_ble_eq_true rfl) (Nat.zero_le _) (Nat.zero_le _) d_X_toInt_4 ?_
  refine q_topl (v := (mnL vv 2147483647)) rfl ?_
  refine lv_l2i hx hb d_X_toInt_7 rfl ?_
  exact rR_i hx hb hr hlk d_X_toInt_8 (mn_gr vv)
set_option maxHeartbeats 4000000 in
set_option maxRecDepth 100000 in
theorem c_Row_held (l : Launch) (D : va_G) (ct : Nat → ClassId) (st : Nat → Nat) (vv : Int32) : Met l y_Row_held (wsy y_Row_held b_Row_held 1 (some .int)) (k2_rm 1 14) (PcR D ct st [.int vv] []) (k2_QcV (.int (mxI (-900) (mnI vv 900)))) 0 0 (fun _ => False) := by
  refine enterR (by decide) (Nat.le_of_ble_eq_true rfl) ?_
  intro p e s m args below meth c ls hx hb hr hml hown hts hlk hP hE hV hS hl
  have hl : lv_has ls 1 [(0, .int vv)] := hl
  refine lv_sipush (v := (-900)) hx hb d_Row_held_0 (by decide) ?_
  refine lv_iload_n hx hb d_Row_held_3 rfl (lv_at hl 0 rfl) ?_
  refine lv_sipush (v := 900) hx hb d_Row_held_4 (by decide) ?_
  refine va_mmin hx hb (by rw [hml]; exact hl.1.symm) hown (hts _ (List.mem_cons_of_mem _ x_663)) (hts _ (List.mem_cons_of_mem _ x_376)) (hts _ (List.mem_cons_of_mem _ x_13)) (hts _ (List.mem_cons_of_mem _ x_377)) (Nat.le_of_ble_eq_true rfl) (Nat.le_of_ble_eq_true rfl) (Nat.zero_le _) (Nat.zero_le _) d_Row_held_7 ?_
  refine q_topi (v := (mnI vv 900)) rfl ?_
  refine va_mmax hx hb (by rw [hml]; exact hl.1.symm) hown (hts _ (List.mem_cons_of_mem _ x_664)) (hts _ (List.mem_cons_of_mem _ x_510)) (hts _ (List.mem_cons_of_mem _ x_13)) (hts _ (List.mem_cons_of_mem _ x_511)) (Nat.le_of_ble_eq_true rfl) (Nat.le_of_ble_eq_true rfl) (Nat.zero_le _) (Nat.zero_le _) d_Row_held_10 ?_
  refine q_topi (v := (mxI (-900) (mnI vv 900))) rfl ?_
  exact rR_i hx hb hr hlk d_Row_held_13 (rfl)
set_option maxHeartbeats 4000000 in
set_option maxRecDepth 100000 in
theorem c_Laws_within (l : Launch) (D : va_G) (ct : Nat → ClassId) (st : Nat → Nat) (mm : Int64) (pp : Int64) (ee : Int64) (hm : 1 ≤ mm.toInt ∧ mm.toInt ≤ 1000000) : Met l y_Laws_within (wsy y_Laws_within b_Laws_within 6 (some .long)) (k2_rm 1 25) (PcR D ct st [.long mm, .long pp, .long ee] []) (k2_QcV (.long (w_within mm pp ee))) 0 0 (fun _ => False) := by
  refine enterR (by decide) (Nat.le_of_ble_eq_true rfl) ?_
  intro p e s m args below meth c ls hx hb hr hml hown hts hlk hP hE hV hS hl
  have hl : lv_has ls 6 [(0, .long mm), (2, .long pp), (4, .long ee)] := hl
  refine lv_lload hx hb d_Laws_within_0 (lv_at hl 2 rfl) ?_
  refine lv_lload_n hx hb d_Laws_within_2 rfl (lv_at hl 1 rfl) ?_
  refine lv_lload_n hx hb d_Laws_within_3 rfl (lv_at hl 1 rfl) ?_
  refine lv_lmul hx hb d_Laws_within_4 ?_
  refine lv_ldc2 (v := 2) hx hb hown (hts _ (List.mem_cons_of_mem _ x_425)) d_Laws_within_5 ?_
  refine lv_lload_n hx hb d_Laws_within_8 rfl (lv_at hl 0 rfl) ?_
  refine lv_lmul hx hb d_Laws_within_9 ?_
  refine cRS (As := [.long (pp * pp), .long (2 * mm)]) (rest := [.long ee]) K_Math_floorDiv x_426 hx hb hml hown hts hE hV hS (c_Math_floorDiv l D ct st (pp * pp) (2 * mm) (pos2 hm)) (fun k q h => by simp at h) rfl hl.1 rfl (Nat.le_of_ble_eq_true rfl) d_Laws_within_10 (Nat.le_of_ble_eq_true rfl) (Nat.le_of_ble_eq_true rfl) ⟨Nat.zero_le _, Nat.zero_le _⟩ ?_
  refine lv_lsub hx hb d_Laws_within_13 ?_
  exact rR_l hx hb hr hlk d_Laws_within_14 (rfl)
set_option maxHeartbeats 4000000 in
set_option maxRecDepth 100000 in
theorem c_Laws_speed (l : Launch) (D : va_G) (ct : Nat → ClassId) (st : Nat → Nat) (mm : Int64) (pp : Int64) (hm : 1 ≤ mm.toInt) : Met l y_Laws_speed (wsy y_Laws_speed b_Laws_speed 4 (some .long)) (k2_rm 1 25) (PcR D ct st [.long mm, .long pp] []) (k2_QcV (.long (fd (1000 * pp) mm))) 0 0 (fun _ => False) := by
  refine enterR (by decide) (Nat.le_of_ble_eq_true rfl) ?_
  intro p e s m args below meth c ls hx hb hr hml hown hts hlk hP hE hV hS hl
  have hl : lv_has ls 4 [(0, .long mm), (2, .long pp)] := hl
  refine lv_ldc2 (v := 1000) hx hb hown (hts _ (List.mem_cons_of_mem _ x_483)) d_Laws_speed_0 ?_
  refine lv_lload_n hx hb d_Laws_speed_3 rfl (lv_at hl 1 rfl) ?_
  refine lv_lmul hx hb d_Laws_speed_4 ?_
  refine lv_lload_n hx hb d_Laws_speed_5 rfl (lv_at hl 0 rfl) ?_
  refine cRS (As := [.long (1000 * pp), .long mm]) (rest := []) K_Math_floorDiv x_426 hx hb hml hown hts hE hV hS (c_Math_floorDiv l D ct st (1000 * pp) mm (by omega)) (fun k q h => by simp at h) rfl hl.1 rfl (Nat.le_of_ble_eq_true rfl) d_Laws_speed_6 (Nat.le_of_ble_eq_true rfl) (Nat.le_of_ble_eq_true rfl) ⟨Nat.zero_le _, Nat.zero_le _⟩ ?_
  exact rR_l hx hb hr hlk d_Laws_speed_9 (rfl)
set_option maxHeartbeats 4000000 in
set_option maxRecDepth 100000 in
theorem c_Laws_temperature (l : Launch) (D : va_G) (ct : Nat → ClassId) (st : Nat → Nat) (mm : Int64) (pp : Int64) (hm : 1 ≤ mm.toInt) : Met l y_Laws_temperature (wsy y_Laws_temperature b_Laws_temperature 4 (some .long)) (k2_rm 1 25) (PcR D ct st [.long mm, .long pp] []) (k2_QcV (.long (fd (100 * pp) mm))) 0 0 (fun _ => False) := by
  refine enterR (by decide) (Nat.le_of_ble_eq_true rfl) ?_
  intro p e s m args below meth c ls hx hb hr hml hown hts hlk hP hE hV hS hl
  have hl : lv_has ls 4 [(0, .long mm), (2, .long pp)] := hl
  refine lv_ldc2 (v := 100) hx hb hown (hts _ (List.mem_cons_of_mem _ x_574)) d_Laws_temperature_0 ?_
  refine lv_lload_n hx hb d_Laws_temperature_3 rfl (lv_at hl 1 rfl) ?_
  refine lv_lmul hx hb d_Laws_temperature_4 ?_
  refine lv_lload_n hx hb d_Laws_temperature_5 rfl (lv_at hl 0 rfl) ?_
  refine cRS (As := [.long (100 * pp), .long mm]) (rest := []) K_Math_floorDiv x_426 hx hb hml hown hts hE hV hS (c_Math_floorDiv l D ct st (100 * pp) mm (by omega)) (fun k q h => by simp at h) rfl hl.1 rfl (Nat.le_of_ble_eq_true rfl) d_Laws_temperature_6 (Nat.le_of_ble_eq_true rfl) (Nat.le_of_ble_eq_true rfl) ⟨Nat.zero_le _, Nat.zero_le _⟩ ?_
  exact rR_l hx hb hr hlk d_Laws_temperature_9 (rfl)
set_option maxHeartbeats 4000000 in
set_option maxRecDepth 100000 in
theorem c_Laws_pressure (l : Launch) (D : va_G) (ct : Nat → ClassId) (st : Nat → Nat) (h0 : Nat) (g : Nat) (ign : Int32) (part : Int32) (heat : Int32) (w : Int64) (hg : g < 3) : Met l y_Laws_pressure (wsy y_Laws_pressure b_Laws_pressure 3 (some .long)) (k2_rm 1 25) (PcR D ct st [.ref h0, .long w] [(h0, .inr (1, [.int (nI g), .int ign, .int part, .int heat]))]) (k2_QcV (.long (w_pres g w))) 0 0 (fun _ => False) := by
  refine enterR (by decide) (Nat.le_of_ble_eq_true rfl) ?_
  intro p e s m args below meth c ls hx hb hr hml hown hts hlk hP hE hV hS hl
  have hl : lv_has ls 3 [(0, .ref h0), (1, .long w)] := hl
  refine lv_lload_n hx hb d_Laws_pressure_0 rfl (lv_at hl 1 rfl) ?_
  refine va_getsN hx hb (hV.1 0 (by decide)).1 hS hown (va_Nw.use rfl (hE.2.1 _ nw_476)) (fun _ h => h) d_Laws_pressure_1 ?_
  refine lv_aload_n hx hb d_Laws_pressure_4 rfl (lv_at hl 0 rfl) ?_
  refine q_get 0 0 i_Laws rfl hx hb hts hown hE hP rfl (by decide) x_44 rfl d_Laws_pressure_5 ?_
  refine va_ti (v := .int (sv_tb 0 g)) hx hb (hV.1 0 (by decide)).2 hS (vp_in_nI (by omega) (by decide)) (by show Value.int (sv_tb 0 (nI _).toNatClampNeg) = _; rw [nI_clamp (by omega)]) d_Laws_pressure_8 ?_
  refine lv_i2l hx hb d_Laws_pressure_9 rfl ?_
  refine lv_lmul hx hb d_Laws_pressure_10 ?_
  refine va_getsN hx hb (hV.1 1 (by decide)).1 hS hown (va_Nw.use rfl (hE.2.1 _ nw_478)) (fun _ h => h) d_Laws_pressure_11 ?_
  refine lv_aload_n hx hb d_Laws_pressure_14 rfl (lv_at hl 0 rfl) ?_
  refine q_get 0 0 i_Laws rfl hx hb hts hown hE hP rfl (by decide) x_44 rfl d_Laws_pressure_15 ?_
  refine va_ti (v := .int (sv_tb 1 g)) hx hb (hV.1 1 (by decide)).2 hS (vp_in_nI (by omega) (by decide)) (by show Value.int (sv_tb 1 (nI _).toNatClampNeg) = _; rw [nI_clamp (by omega)]) d_Laws_pressure_18 ?_
  refine lv_i2l hx hb d_Laws_pressure_19 rfl ?_
  refine cRS (As := [.long (w * ((sv_tb 0 g).toInt64)), .long ((sv_tb 1 g).toInt64)]) (rest := []) K_Math_floorDiv x_426 hx hb hml hown hts hE hV hS (c_Math_floorDiv l D ct st (w * ((sv_tb 0 g).toInt64)) ((sv_tb 1 g).toInt64) (tb1_pos hg)) (fun k q h => by simp at h) rfl hl.1 rfl (Nat.le_of_ble_eq_true rfl) d_Laws_pressure_20 (Nat.le_of_ble_eq_true rfl) (Nat.le_of_ble_eq_true rfl) ⟨Nat.zero_le _, Nat.zero_le _⟩ ?_
  exact rR_l hx hb hr hlk d_Laws_pressure_23 (pres_tb hg w)
set_option maxHeartbeats 4000000 in
set_option maxRecDepth 100000 in
/-- the root, bit by bit -/
theorem c_Laws_root (l : Launch) (D : va_G) (ct : Nat → ClassId) (st : Nat → Nat) (vv : Int64) (hv : vv.toInt < 18014398509481984) : Met l y_Laws_root (wsy y_Laws_root b_Laws_root 8 (some .long)) (k2_rm 0 0) (PcR D ct st [.long vv] []) (k2_QcV (.long (rt vv))) 0 0 (fun _ => False) := by
  refine enterR (by decide) (Nat.le_of_ble_eq_true rfl) ?_
  intro p e s m args below meth c ls hx hb hr hml hown hts hlk hP hE hV hS hl
  have hl : lv_has ls 8 [(0, .long vv)] := hl
  refine lv_lconst (v := 0) hx hb d_Laws_root_0 (by decide) ?_
  refine lv_lstore_n (lv' := [(2, .long 0), (0, .long vv)]) hx hb d_Laws_root_1 rfl hl (by decide) rfl (fun ls hl => ?_)
  refine lv_ldc2 (v := 67108864) hx hb hown (hts _ (List.mem_cons_of_mem _ x_496)) d_Laws_root_2 ?_
  refine lv_lstore (lv' := [(4, .long 67108864), (2, .long 0), (0, .long vv)]) hx hb d_Laws_root_5 hl (by decide) rfl (fun ls hl => ?_)
  have loop_7 : ∀ (n9 : Nat) (f : Nat) (k : Nat) (hri : RI vv f k) (hn9 : k < n9) (ls : Array Slot), lv_has ls 8 [(0, .long vv), (2, .long (lN f)), (4, .long (lN (2 ^ k / 2)))] → W p l e (k2_rm 0 0) s m args below meth c s.heap [] 0 0 (MQ below (k2_QcV (.long (rt vv))) args s 0 0 (fun _ => False)) (F0 m 7 ls []) := by
    intro n9
    induction n9 with
    | zero => intro f k hri hn9 ls hl; exact absurd hn9 (Nat.not_lt_zero _)
    | succ n9 ih_7 =>
      intro f k hri hn9 ls hl
      refine lv_lload hx hb d_Laws_root_7 (lv_at hl 2 rfl) ?_
      refine lv_lconst (v := 0) hx hb d_Laws_root_9 (by decide) ?_
      refine W.lcmp hx hb d_Laws_root_10 ?_
      refine q_cmp_le (tgt := 42) hx hb d_Laws_root_11 (by decide) (fun h_11 => ?_) (fun h_11 => ?_)
      · refine lv_lload_n hx hb d_Laws_root_42 rfl (lv_at hl 1 rfl) ?_
        exact rR_l hx hb hr hlk d_Laws_root_43 (RI_end hri h_11)
      · have hk := RI_pos (RI_le hri) h_11
        refine lv_lload_n hx hb d_Laws_root_14 rfl (lv_at hl 1 rfl) ?_
        refine lv_lload hx hb d_Laws_root_15 (lv_at hl 2 rfl) ?_
        refine lv_ladd hx hb d_Laws_root_17 ?_
        refine q_topl (v := lN (f + 2 ^ k / 2)) (lN_add _ _) ?_
        refine lv_lstore (lv' := [(6, .long (lN (f + 2 ^ k / 2))), (0, .long vv), (2, .long (lN f)), (4, .long (lN (2 ^ k / 2)))]) hx hb d_Laws_root_18 hl (by decide) rfl (fun ls hl => ?_)
        refine lv_lload hx hb d_Laws_root_20 (lv_at hl 0 rfl) ?_
        refine lv_lload hx hb d_Laws_root_22 (lv_at hl 0 rfl) ?_
        refine lv_lmul hx hb d_Laws_root_24 ?_
        refine lv_lload_n hx hb d_Laws_root_25 rfl (lv_at hl 1 rfl) ?_
        refine W.lcmp hx hb d_Laws_root_26 ?_
        refine q_cmp_gt (tgt := 33) hx hb d_Laws_root_27 (by decide) (fun h_27 => ?_) (fun h_27 => ?_)
        · refine lv_lload hx hb d_Laws_root_33 (lv_at hl 3 rfl) ?_
          refine lv_iconst (v := 1) hx hb d_Laws_root_35 (by decide) ?_
          refine lv_lshr hx hb d_Laws_root_36 rfl ?_
          refine q_topl (v := lN (2 ^ (k - 1) / 2)) (shr_tab k (by have := RI_le hri; omega) hk) ?_
          refine lv_lstore (lv' := [(4, .long (lN (2 ^ (k - 1) / 2))), (6, .long (lN (f + 2 ^ k / 2))), (0, .long vv), (2, .long (lN f))]) hx hb d_Laws_root_37 hl (by decide) rfl (fun ls hl => ?_)
          refine lv_goto (tgt := 7) hx hb d_Laws_root_39 (by decide) ?_
          exact ih_7 f (k - 1) (by first | exact RI_yes hk hri h_27 | exact RI_no hk hri h_27) (by omega) ls (lv_sub hl [2, 3, 0] rfl)
        · refine lv_lload hx hb d_Laws_root_30 (lv_at hl 0 rfl) ?_
          refine lv_lstore_n (lv' := [(2, .long (lN (f + 2 ^ k / 2))), (6, .long (lN (f + 2 ^ k / 2))), (0, .long vv), (4, .long (lN (2 ^ k / 2)))]) hx hb d_Laws_root_32 rfl hl (by decide) rfl (fun ls hl => ?_)
          refine lv_lload hx hb d_Laws_root_33 (lv_at hl 3 rfl) ?_
          refine lv_iconst (v := 1) hx hb d_Laws_root_35 (by decide) ?_
          refine lv_lshr hx hb d_Laws_root_36 rfl ?_
          refine q_topl (v := lN (2 ^ (k - 1) / 2)) (shr_tab k (by have := RI_le hri; omega) hk) ?_
          refine lv_lstore (lv' := [(4, .long (lN (2 ^ (k - 1) / 2))), (2, .long (lN (f + 2 ^ k / 2))), (6, .long (lN (f + 2 ^ k / 2))), (0, .long vv)]) hx hb d_Laws_root_37 hl (by decide) rfl (fun ls hl => ?_)
          refine lv_goto (tgt := 7) hx hb d_Laws_root_39 (by decide) ?_
          exact ih_7 (f + 2 ^ k / 2) (k - 1) (by first | exact RI_yes hk hri h_27 | exact RI_no hk hri h_27) (by omega) ls (lv_sub hl [3, 1, 0] rfl)
  exact loop_7 _ 0 27 (RI_0 hv) (Nat.lt_succ_self _) ls (lv_sub hl [2, 1, 0] rfl)
set_option maxHeartbeats 4000000 in
set_option maxRecDepth 100000 in
theorem c_Laws_sound (l : Launch) (D : va_G) (ct : Nat → ClassId) (st : Nat → Nat) (h0 : Nat) (g : Nat) (ign : Int32) (part : Int32) (heat : Int32) (mm : Int64) (pr : Int64) (hg : g < 3) (hm : 1 ≤ mm.toInt) (hp : 0 ≤ pr.toInt ∧ pr.toInt ≤ 1000000000) : Met l y_Laws_sound (wsy y_Laws_sound b_Laws_sound 7 (some .long)) (k2_rm 1 27) (PcR D ct st [.ref h0, .long mm, .long pr] [(h0, .inr (1, [.int (nI g), .int ign, .int part, .int heat]))]) (k2_QcV (.long (w_sound g mm pr))) 0 0 (fun _ => False) := by
  refine enterR (by decide) (Nat.le_of_ble_eq_true rfl) ?_
  intro p e s m args below meth c ls hx hb hr hml hown hts hlk hP hE hV hS hl
  have hl : lv_has ls 7 [(0, .ref h0), (1, .long mm), (3, .long pr)] := hl
  refine lv_lload_n hx hb d_Laws_sound_0 rfl (lv_at hl 2 rfl) ?_
  refine va_getsN hx hb (hV.1 2 (by decide)).1 hS hown (va_Nw.use rfl (hE.2.1 _ nw_488)) (fun _ h => h) d_Laws_sound_1 ?_
  refine lv_aload_n hx hb d_Laws_sound_4 rfl (lv_at hl 0 rfl) ?_
  refine q_get 0 0 i_Laws rfl hx hb hts hown hE hP rfl (by decide) x_44 rfl d_Laws_sound_5 ?_
  refine va_ti (v := .int (sv_tb 2 g)) hx hb (hV.1 2 (by decide)).2 hS (vp_in_nI (by omega) (by decide)) (by show Value.int (sv_tb 2 (nI _).toNatClampNeg) = _; rw [nI_clamp (by omega)]) d_Laws_sound_8 ?_
  refine lv_i2l hx hb d_Laws_sound_9 rfl ?_
  refine lv_lmul hx hb d_Laws_sound_10 ?_
  refine lv_ldc2 (v := 1000000) hx hb hown (hts _ (List.mem_cons_of_mem _ x_490)) d_Laws_sound_11 ?_
  refine lv_lmul hx hb d_Laws_sound_14 ?_
  refine lv_lload_n hx hb d_Laws_sound_15 rfl (lv_at hl 1 rfl) ?_
  refine cRS (As := [.long ((pr * ((sv_tb 2 g).toInt64)) * 1000000), .long mm]) (rest := []) K_Math_floorDiv x_426 hx hb hml hown hts hE hV hS (c_Math_floorDiv l D ct st ((pr * ((sv_tb 2 g).toInt64)) * 1000000) mm (by omega)) (fun k q h => by simp at h) rfl hl.1 rfl (Nat.le_of_ble_eq_true rfl) d_Laws_sound_16 (Nat.le_of_ble_eq_true rfl) (Nat.le_of_ble_eq_true rfl) ⟨Nat.zero_le _, Nat.zero_le _⟩ ?_
  refine lv_lstore (lv' := [(5, .long (fd ((pr * ((sv_tb 2 g).toInt64)) * 1000000) mm)), (0, .ref h0), (1, .long mm), (3, .long pr)]) hx hb d_Laws_sound_19 hl (by decide) rfl (fun ls hl => ?_)
  refine lv_lload hx hb d_Laws_sound_21 (lv_at hl 0 rfl) ?_
  refine va_getsN hx hb (hV.1 3 (by decide)).1 hS hown (va_Nw.use rfl (hE.2.1 _ nw_491)) (fun _ h => h) d_Laws_sound_23 ?_
  refine lv_aload_n hx hb d_Laws_sound_26 rfl (lv_at hl 1 rfl) ?_
  refine q_get 0 0 i_Laws rfl hx hb hts hown hE hP rfl (by decide) x_44 rfl d_Laws_sound_27 ?_
  refine va_ti (v := .int (sv_tb 3 g)) hx hb (hV.1 3 (by decide)).2 hS (vp_in_nI (by omega) (by decide)) (by show Value.int (sv_tb 3 (nI _).toNatClampNeg) = _; rw [nI_clamp (by omega)]) d_Laws_sound_30 ?_
  refine lv_i2l hx hb d_Laws_sound_31 rfl ?_
  refine cRS (As := [.long (fd ((pr * ((sv_tb 2 g).toInt64)) * 1000000) mm), .long ((sv_tb 3 g).toInt64)]) (rest := []) K_Math_floorDiv x_426 hx hb hml hown hts hE hV hS (c_Math_floorDiv l D ct st (fd ((pr * ((sv_tb 2 g).toInt64)) * 1000000) mm) ((sv_tb 3 g).toInt64) (tb3_pos hg)) (fun k q h => by simp at h) rfl hl.1 rfl (Nat.le_of_ble_eq_true rfl) d_Laws_sound_32 (Nat.le_of_ble_eq_true rfl) (Nat.le_of_ble_eq_true rfl) ⟨Nat.zero_le _, Nat.zero_le _⟩ ?_
  refine cRS (As := [.long (fd (fd ((pr * ((sv_tb 2 g).toInt64)) * 1000000) mm) ((sv_tb 3 g).toInt64))]) (rest := []) K_Laws_root x_493 hx hb hml hown hts hE hV hS (c_Laws_root l D ct st (fd (fd ((pr * ((sv_tb 2 g).toInt64)) * 1000000) mm) ((sv_tb 3 g).toInt64)) (by rw [snd_tb hg]; exact snd_rng hg hm hp)) (fun k q h => by simp at h) rfl hl.1 rfl (Nat.le_of_ble_eq_true rfl) d_Laws_sound_35 (Nat.le_of_ble_eq_true rfl) (Nat.le_of_ble_eq_true rfl) ⟨Nat.zero_le _, Nat.zero_le _⟩ ?_
  exact rR_l hx hb hr hlk d_Laws_sound_38 (by rw [snd_tb hg]; rfl)
def w_burns (m pr fu : Int64) (ign part : Int32) : Int64 := if fd (100 * pr) m < ign.toInt64 then 0 else fd (fu * part.toInt64) 100
set_option maxHeartbeats 4000000 in
set_option maxRecDepth 100000 in
theorem c_Laws_burns (l : Launch) (D : va_G) (ct : Nat → ClassId) (st : Nat → Nat) (h0 : Nat) (g : Nat) (ign : Int32) (part : Int32) (heat : Int32) (mm : Int64) (pr : Int64) (fu : Int64) (hm : 1 ≤ mm.toInt) : Met l y_Laws_burns (wsy y_Laws_burns b_Laws_burns 7 (some .long)) (k2_rm 2 48) (PcR D ct st [.ref h0, .long mm, .long pr, .long fu] [(h0, .inr (1, [.int (nI g), .int ign, .int part, .int heat]))]) (k2_QcV (.long (w_burns mm pr fu ign part))) 0 0 (fun _ => False) := by
  refine enterR (by decide) (Nat.le_of_ble_eq_true rfl) ?_
  intro p e s m args below meth c ls hx hb hr hml hown hts hlk hP hE hV hS hl
  have hl : lv_has ls 7 [(0, .ref h0), (1, .long mm), (3, .long pr), (5, .long fu)] := hl
  refine lv_lload_n hx hb d_Laws_burns_0 rfl (lv_at hl 1 rfl) ?_
  refine lv_lload_n hx hb d_Laws_burns_1 rfl (lv_at hl 2 rfl) ?_
  refine cRS (As := [.long mm, .long pr]) (rest := []) K_Laws_temperature x_571 hx hb hml hown hts hE hV hS (c_Laws_temperature l D ct st mm pr (by omega)) (fun k q h => by simp at h) rfl hl.1 rfl (Nat.le_of_ble_eq_true rfl) d_Laws_burns_2 (Nat.le_of_ble_eq_true rfl) (Nat.le_of_ble_eq_true rfl) ⟨Nat.zero_le _, Nat.zero_le _⟩ ?_
  refine lv_aload_n hx hb d_Laws_burns_5 rfl (lv_at hl 0 rfl) ?_
  refine q_get 0 1 i_Laws rfl hx hb hts hown hE hP rfl (by decide) x_47 rfl d_Laws_burns_6 ?_
  refine lv_i2l hx hb d_Laws_burns_9 rfl ?_
  refine W.lcmp hx hb d_Laws_burns_10 ?_
  refine q_cmp_lt (tgt := 31) hx hb d_Laws_burns_11 (by decide) (fun h_11 => ?_) (fun h_11 => ?_)
  · refine lv_lconst (v := 0) hx hb d_Laws_burns_31 (by decide) ?_
    exact rR_l hx hb hr hlk d_Laws_burns_32 (by unfold w_burns; first | rw [if_pos h_11] | rw [if_neg h_11])
  · refine lv_lload hx hb d_Laws_burns_14 (lv_at hl 3 rfl) ?_
    refine lv_aload_n hx hb d_Laws_burns_16 rfl (lv_at hl 0 rfl) ?_
    refine q_get 0 2 i_Laws rfl hx hb hts hown hE hP rfl (by decide) x_48 rfl d_Laws_burns_17 ?_
    refine lv_i2l hx hb d_Laws_burns_20 rfl ?_
    refine lv_lmul hx hb d_Laws_burns_21 ?_
    refine lv_ldc2 (v := 100) hx hb hown (hts _ (List.mem_cons_of_mem _ x_574)) d_Laws_burns_22 ?_
    refine cRS (As := [.long (fu * part.toInt64), .long 100]) (rest := []) K_Math_floorDiv x_426 hx hb hml hown hts hE hV hS (c_Math_floorDiv l D ct st (fu * part.toInt64) 100 (by decide)) (fun k q h => by simp at h) rfl hl.1 rfl (Nat.le_of_ble_eq_true rfl) d_Laws_burns_25 (Nat.le_of_ble_eq_true rfl) (Nat.le_of_ble_eq_true rfl) ⟨Nat.zero_le _, Nat.zero_le _⟩ ?_
    refine lv_goto (tgt := 32) hx hb d_Laws_burns_28 (by decide) ?_
    exact rR_l hx hb hr hlk d_Laws_burns_32 (by unfold w_burns; first | rw [if_pos h_11] | rw [if_neg h_11])
theorem lNg0 {g : Nat} (h : g < 3) : lN g = 0 ↔ g = 0 := by
  rw [show (0 : Int64) = lN 0 from rfl]; exact lN_eq (by omega) (by decide)
theorem lNg1 {g : Nat} (h : g < 3) : lN g = 1 ↔ g = 1 := by
  rw [show (1 : Int64) = lN 1 from rfl]; exact lN_eq (by omega) (by decide)
