theorem tadd {x y : Int64} {K : Int} (hx : -K ≤ x.toInt ∧ x.toInt ≤ K) (hy : -K ≤ y.toInt ∧ y.toInt ≤ K) (hK : K ≤ 1000000000000) : (x + y).toInt = x.toInt + y.toInt := fb_addL (by omega) (by omega)
theorem tsub {x y : Int64} {K : Int} (hx : -K ≤ x.toInt ∧ x.toInt ≤ K) (hy : -K ≤ y.toInt ∧ y.toInt ≤ K) (hK : K ≤ 1000000000000) : (x - y).toInt = x.toInt - y.toInt := fb_subL (by omega) (by omega)
theorem tmul {x y : Int64} (h : -1000000000000 ≤ x.toInt * y.toInt ∧ x.toInt * y.toInt ≤ 1000000000000) : (x * y).toInt = x.toInt * y.toInt := fb_mulL (by omega) (by omega)
theorem sz_abs {x : Int64} (h : -1000000000000 ≤ x.toInt ∧ x.toInt ≤ 1000000000000) : (w_sz x).toInt = r_abs x.toInt := by
  unfold w_sz r_abs
  by_cases z : x < 0
  · rw [if_pos z, if_pos ((lt0 x).mp z), Int64.toInt_neg]
    exact fb_bmodL (by omega) (by omega)
  · rw [if_neg z, if_neg (fun w => z ((lt0 x).mpr w))]
theorem held_hld (x : Int64) : (w_held x).toInt = r_hld x.toInt := by
  unfold w_held r_hld
  have e1 : (900 < x) ↔ (900 < x.toInt) := by rw [Int64.lt_iff_toInt_lt]; exact Iff.rfl
  have e2 : (x < -900) ↔ (x.toInt < -900) := by rw [Int64.lt_iff_toInt_lt]; exact Iff.rfl
  by_cases a : 900 < x
  · rw [if_pos a, if_pos (e1.mp a)]; rfl
  · rw [if_neg a, if_neg (fun z => a (e1.mpr z))]
    by_cases b : x < -900
    · rw [if_pos b, if_pos (e2.mp b)]; rfl
    · rw [if_neg b, if_neg (fun z => b (e2.mpr z))]
/-- what FB says of two neighbours, over the reference's row -/
theorem fb2 {S Bf : Nat → Int64} {n k : Nat} (h : FB n (fS S Bf)) (hk : k < n) : (0 ≤ (S (211 + k)).toInt ∧ (S (211 + k)).toInt ≤ 2) ∧ (0 ≤ (S (219 + k)).toInt ∧ (S (219 + k)).toInt ≤ 100000) ∧ (-900 ≤ (S (227 + k)).toInt ∧ (S (227 + k)).toInt ≤ 900) ∧ (1 ≤ (S (235 + k)).toInt ∧ (S (235 + k)).toInt ≤ 900) := by
  have := h k hk
  rw [fS0, fS1, fS2, fS3] at this
  exact this
theorem wm_val {v t w u : Int64} (h1 : -900 ≤ v.toInt ∧ v.toInt ≤ 900) (h2 : 1 ≤ t.toInt ∧ t.toInt ≤ 900) (h3 : -900 ≤ w.toInt ∧ w.toInt ≤ 900) (h4 : 1 ≤ u.toInt ∧ u.toInt ≤ 900) : ((v * t + w * u) / (t + u)).toInt = (v.toInt * t.toInt + w.toInt * u.toInt).tdiv (t.toInt + u.toInt) := by
  obtain ⟨a1, a2, -⟩ := wmean h1 h2 h3 h4
  have e1 : (t + u).toInt = t.toInt + u.toInt := tadd (K := 900) (by omega) (by omega) (by omega)
  have e2 : (v * t).toInt = v.toInt * t.toInt := tmul (by omega)
  have e3 : (w * u).toInt = w.toInt * u.toInt := tmul (by omega)
  have e4 : (v * t + w * u).toInt = v.toInt * t.toInt + w.toInt * u.toInt := by
    rw [tadd (K := 810000) (by rw [e2]; omega) (by rw [e3]; omega) (by omega), e2, e3]
  rw [div_toInt (by rw [e1]; omega), e4, e1]
theorem div10 {x : Int64} : (x / 10).toInt = x.toInt.tdiv 10 := div_toInt (y := 10) (by decide)
theorem min9 {x : Int64} : (if x ≤ 900 then x else 900).toInt = r_min x.toInt 900 := by
  unfold r_min
  have e : (x ≤ 900) ↔ (x.toInt ≤ 900) := by rw [Int64.le_iff_toInt_le]; exact Iff.rfl
  by_cases a : x ≤ 900
  · rw [if_pos a, if_neg (by have := e.mp a; omega)]
  · rw [if_neg a, if_pos (by have : ¬ x.toInt ≤ 900 := fun z => a (e.mpr z); omega)]; rfl
theorem half {x y : Int64} (hx : 0 ≤ x.toInt ∧ x.toInt ≤ 100000) (hy : 0 ≤ y.toInt ∧ y.toInt ≤ 100000) : (fd (x + y) 2).toInt = (x.toInt + y.toInt) / 2 := by
  rw [fd_toInt (by decide), tadd (K := 100000) (by omega) (by omega) (by omega)]; rfl
theorem nine {x : Int64} (h : 1 ≤ x.toInt ∧ x.toInt ≤ 900) : (9 * x / 10).toInt = 9 * x.toInt / 10 := by
  have e : (9 * x).toInt = 9 * x.toInt := tmul (x := 9) (by show _ ≤ 9 * x.toInt ∧ 9 * x.toInt ≤ _; omega)
  rw [div10, e, Int.tdiv_eq_ediv_of_nonneg (by omega)]
theorem three {x : Int64} (h : 1 ≤ x.toInt ∧ x.toInt ≤ 900) : (3 * x / 2).toInt = 3 * x.toInt / 2 := by
  have e : (3 * x).toInt = 3 * x.toInt := tmul (x := 3) (by show _ ≤ 3 * x.toInt ∧ 3 * x.toInt ≤ _; omega)
  rw [div_toInt (y := 2) (by decide), e, Int.tdiv_eq_ediv_of_nonneg (by omega)]; rfl
theorem eq0 {x : Int64} : x = 0 ↔ x.toInt = 0 := by rw [← Int64.toInt_inj]; exact Iff.rfl
theorem eq1 {x : Int64} : x = 1 ↔ x.toInt = 1 := by rw [← Int64.toInt_inj]; exact Iff.rfl
theorem eq2 {x : Int64} : x = 2 ↔ x.toInt = 2 := by rw [← Int64.toInt_inj]; exact Iff.rfl
theorem le1 {x : Int64} : 1 ≤ x ↔ ¬ x.toInt < 1 := by
  rw [Int64.le_iff_toInt_le]
  show 1 ≤ x.toInt ↔ _
  omega
theorem st_a {F : RF} {x o : Nat} {z y : Int64} (h : z.toInt = F 0 o) (hz : ¬ z = 1) (hy : y.toInt = F 3 x) : y.toInt = mt_st F x o := by
  unfold mt_st
  rw [if_neg (fun w => hz (eq1.mpr (h.trans w))), hy]
theorem st_b {F : RF} {x o : Nat} {z y : Int64} (h : z.toInt = F 0 o) (hz : z = 1) (hy : y.toInt = F 3 x) (hr : 1 ≤ y.toInt ∧ y.toInt ≤ 900) (c : 1 ≤ 9 * y / 10) : (9 * y / 10).toInt = mt_st F x o := by
  unfold mt_st
  rw [if_pos (h.symm.trans (eq1.mp hz)), ← hy, ← nine hr, if_neg (le1.mp c)]
theorem st_c {F : RF} {x o : Nat} {z y : Int64} (h : z.toInt = F 0 o) (hz : z = 1) (hy : y.toInt = F 3 x) (hr : 1 ≤ y.toInt ∧ y.toInt ≤ 900) (c : ¬ 1 ≤ 9 * y / 10) : (1 : Int64).toInt = mt_st F x o := by
  unfold mt_st
  rw [if_pos (h.symm.trans (eq1.mp hz)), ← hy, ← nine hr, if_pos (Classical.byContradiction fun w => c (le1.mpr w))]
  rfl
theorem sp_a {F : RF} {x o : Nat} {z y w : Int64} (h : z.toInt = F 0 o) (hz : z = 1) (hy : y.toInt = F 2 o) (hw : w.toInt = F 2 x) (r1 : -900 ≤ y.toInt ∧ y.toInt ≤ 900) (r2 : -900 ≤ w.toInt ∧ w.toInt ≤ 900) : (w_held (y + w / 10)).toInt = mt_sp F x o := by
  unfold mt_sp
  have := tdiv_bd (a := w.toInt) (b := 10) (K := 90) (by omega) ⟨by omega, by omega⟩
  rw [held_hld, if_pos (h.symm.trans (eq1.mp hz)), tadd (K := 900) (by omega) (by rw [div10]; omega) (by omega), div10, hy, hw]
theorem sp_b {F : RF} {x o : Nat} {z y : Int64} (h : z.toInt = F 0 o) (hz : ¬ z = 1) (hy : y.toInt = F 2 o) (r1 : -900 ≤ y.toInt ∧ y.toInt ≤ 900) : (w_held (2 * y)).toInt = mt_sp F x o := by
  unfold mt_sp
  rw [held_hld, if_neg (fun w => hz (eq1.mpr (h.trans w))), tmul (x := 2) (by show _ ≤ 2 * y.toInt ∧ 2 * y.toInt ≤ _; omega), hy]
  rfl

