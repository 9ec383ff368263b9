/-! bounds: a step that may be done leaves cells that may stand -/
theorem ediv_bd {a b K : Int} (hb : 0 < b) (h : -K ≤ a ∧ a ≤ K) : -K ≤ a / b ∧ a / b ≤ K := by
  rcases Int.lt_or_le a 0 with z | z
  · have h1 := Int.ediv_neg_of_neg_of_pos z hb
    have h2 : a ≤ a / b := by
      have := Int.le_ediv_of_mul_le (a := a) (b := a) hb (by
        have : a * b ≤ a * 1 := Int.mul_le_mul_of_nonpos_left (by omega) (by omega)
        omega)
      exact this
    omega
  · have h1 := Int.ediv_le_self b z
    have h2 := Int.ediv_nonneg z (show 0 ≤ b by omega)
    omega
theorem rt_rng {x : Int64} (hv : x.toInt < 18014398509481984) : 0 ≤ (rt x).toInt ∧ (rt x).toInt ≤ 134217728 := by
  unfold rt
  by_cases h : ∃ r, IsRt x r
  · rw [dif_pos h]
    have hs := Classical.choose_spec h
    have hr : Classical.choose h ≤ 134217728 := by
      rcases hs with ⟨-, h2⟩ | ⟨h1, -⟩
      · omega
      · rcases Nat.lt_or_ge 134217728 (Classical.choose h) with q | q
        · have := Nat.mul_le_mul (Nat.le_of_lt q) (Nat.le_of_lt q)
          omega
        · exact q
    rw [lN_toInt (by omega)]
    omega
  · rw [dif_neg h]
    decide
theorem sz_rng {x : Int64} {K : Int} (h : -K ≤ x.toInt ∧ x.toInt ≤ K) (hK : K < 9223372036854775808) : 0 ≤ (w_sz x).toInt ∧ (w_sz x).toInt ≤ K := by
  unfold w_sz
  by_cases z : x < 0
  · rw [if_pos z]
    rw [lt0] at z
    have e : (-x).toInt = -x.toInt := by
      rw [Int64.toInt_neg]
      exact fb_bmodL (by omega) (by omega)
    omega
  · rw [if_neg z]
    rw [lt0] at z
    omega
section BD
variable {g n lft rgt : Nat} {M P E F : Nat → Int64} {k : Nat}
theorem OkC.so (hg : g < 3) (h : OkC M P E F k) : 0 ≤ (w_so g M P E k).toInt ∧ (w_so g M P E k).toInt ≤ 134217728 := rt_rng (snd_rng hg h.1.1 (h.pr hg))
theorem k1000 {x c : Int64} (h : -50000000 ≤ x.toInt ∧ x.toInt ≤ 50000000) (hc : c.toInt = 1000 ∨ c.toInt = -1000) : -50000000000 ≤ (c * x).toInt ∧ (c * x).toInt ≤ 50000000000 := by
  rcases hc with e | e
  · rw [fb_mulL (by rw [e]; omega) (by rw [e]; omega), e]; omega
  · rw [fb_mulL (by rw [e]; omega) (by rw [e]; omega), e]; omega
theorem OkC.sp (h : OkC M P E F k) : -50000000000 ≤ (w_sp M P k).toInt ∧ (w_sp M P k).toInt ≤ 50000000000 := by
  unfold w_sp
  rw [fd_toInt (by have := h.1.1; omega)]
  exact ediv_bd (by have := h.1.1; omega) (k1000 h.2.1 (Or.inl rfl))
theorem OkC.turn (h : OkC M P E F k) : -50000000000 ≤ (fd ((-1000) * P k) (M k)).toInt ∧ (fd ((-1000) * P k) (M k)).toInt ≤ 50000000000 := by
  rw [fd_toInt (by have := h.1.1; omega)]
  exact ediv_bd (by have := h.1.1; omega) (k1000 h.2.1 (Or.inr rfl))
theorem add_rng {x y : Int64} (hx : 0 ≤ x.toInt ∧ x.toInt ≤ 50000000000) (hy : 0 ≤ y.toInt ∧ y.toInt ≤ 134217728) : 0 ≤ (x + y).toInt ∧ (x + y).toInt ≤ 50134217728 := by
  rw [fb_addL (by omega) (by omega)]; omega
theorem OkC.fast (hg : g < 3) (h : OkC M P E F k) : 0 ≤ (w_fast g M P E k).toInt ∧ (w_fast g M P E k).toInt ≤ 50134217728 := add_rng (sz_rng h.sp (by decide)) (h.so hg)
theorem pick_rng {x y : Int64} {K : Int} (hx : 0 ≤ x.toInt ∧ x.toInt ≤ K) (hy : 0 ≤ y.toInt ∧ y.toInt ≤ K) : 0 ≤ (w_pick x y).toInt ∧ (w_pick x y).toInt ≤ K := by
  unfold w_pick
  split
  · exact hy
  · exact hx
theorem lf_lt {b : Nat} (hn : 2 ≤ n) (hb : b ≤ n) : w_lf b < n := by unfold w_lf; split <;> omega
theorem rg_lt {b : Nat} (hn : 2 ≤ n) (hb : b ≤ n) : w_rg n b < n := by unfold w_rg; split <;> omega
theorem pace_rng (hg : g < 3) (hn : 2 ≤ n) (hok : ∀ c, c < n → OkC M P E F c) {b : Nat} (hb : b ≤ n) : 0 ≤ (w_pace g M P E n lft rgt b).toInt ∧ (w_pace g M P E n lft rgt b).toInt ≤ 50134217728 := by
  have hL := hok _ (lf_lt hn hb)
  have hR := hok _ (rg_lt hn hb)
  unfold w_pace
  refine pick_rng (hL.fast hg) ?_
  split
  · exact add_rng (sz_rng hR.turn (by decide)) (hR.so hg)
  · exact hR.fast hg
theorem OkC.psq (h : OkC M P E F k) : ((P k * P k).toInt = (P k).toInt * (P k).toInt ∧ 0 ≤ (P k).toInt * (P k).toInt) ∧ (P k).toInt * (P k).toInt / (M k).toInt ≤ 2000000002 := by
  obtain ⟨h1, h2, h3, h4, -⟩ := h
  obtain ⟨s1, s2, s3⟩ := sq_rng (K := 50000000) h2 (by decide)
  refine ⟨⟨s1, s2⟩, ?_⟩
  have e := within_rng (m := M k) (p := P k) (e := E k) h1 ⟨by omega, by omega⟩ ⟨by omega, by omega⟩
  have q1 : (P k).toInt * (P k).toInt / (2 * (M k).toInt) ≤ 1000000000 := by omega
  have q2 : (P k).toInt * (P k).toInt < (1000000000 + 1) * (2 * (M k).toInt) := Int.lt_mul_of_ediv_lt (by omega) (by omega)
  have q3 : (P k).toInt * (P k).toInt / (M k).toInt < 2000000002 := Int.ediv_lt_of_lt_mul (by omega) (by
    have : (1000000000 + 1) * (2 * (M k).toInt) = 2000000002 * (M k).toInt := by omega
    omega)
  omega
theorem OkC.mq (hg : g < 3) (h : OkC M P E F k) : 0 ≤ (w_mq g M P E k).toInt ∧ (w_mq g M P E k).toInt ≤ 3000000002 := by
  obtain ⟨⟨s1, s2⟩, s3⟩ := h.psq
  have hp := h.pr hg
  have q0 := Int.ediv_nonneg s2 (show 0 ≤ (M k).toInt by have := h.1.1; omega)
  have e : (fd (P k * P k) (M k)).toInt = (P k).toInt * (P k).toInt / (M k).toInt := by rw [fd_toInt (by have := h.1.1; omega), s1]
  unfold w_mq
  rw [fb_addL (by rw [e]; omega) (by rw [e]; omega), e]
  omega
theorem more_rng (hn : 2 ≤ n) (hok : ∀ c, c < n → OkC M P E F c) {b : Nat} (hb : b ≤ n) : -100000000 ≤ (w_more P n lft rgt b).toInt ∧ (w_more P n lft rgt b).toInt ≤ 100000000 := by
  have hL := (hok _ (lf_lt hn hb)).2.1
  have hR := (hok _ (rg_lt hn hb)).2.1
  have h0 := (hok 0 (by omega)).2.1
  unfold w_more
  split
  · split
    · rw [fb_mulL (x := 2) (by show _ ≤ 2 * (P 0).toInt; omega) (by show 2 * (P 0).toInt < _; omega)]
      show _ ≤ 2 * (P 0).toInt ∧ 2 * (P 0).toInt ≤ _
      omega
    · rw [fb_mulL (x := -2) (by show _ ≤ (-2) * (P (w_lf b)).toInt; omega) (by show (-2) * (P (w_lf b)).toInt < _; omega)]
      show _ ≤ (-2) * (P (w_lf b)).toInt ∧ (-2) * (P (w_lf b)).toInt ≤ _
      omega
  · rw [fb_subL (by omega) (by omega)]
    omega
theorem over_rng {t su fa mo : Int64} (ht : 1 ≤ t.toInt ∧ t.toInt ≤ 400) (hs : 0 ≤ su.toInt ∧ su.toInt ≤ 6000000004) (hf : 0 ≤ fa.toInt ∧ fa.toInt ≤ 50134217728) (hm : -100000000 ≤ mo.toInt ∧ mo.toInt ≤ 100000000) (hp : t * fa ≤ 500000) : -1300000000 ≤ (w_over t su fa mo).toInt ∧ (w_over t su fa mo).toInt ≤ 1300000000 := by
  have a1 : (1000 * su).toInt = 1000 * su.toInt := fb_mulL (x := 1000) (by show _ ≤ 1000 * su.toInt; omega) (by show 1000 * su.toInt < _; omega)
  have tf0 : 0 ≤ t.toInt * fa.toInt := Int.mul_nonneg (by omega) (by omega)
  have tf1 : t.toInt * fa.toInt ≤ 400 * 50134217728 := Int.mul_le_mul ht.2 hf.2 hf.1 (by omega)
  have tf : (t * fa).toInt = t.toInt * fa.toInt := fb_mulL (by omega) (by omega)
  have tf2 : t.toInt * fa.toInt ≤ 500000 := by
    have := Int64.le_iff_toInt_le.mp hp
    rw [tf] at this
    exact this
  have fm : -(50134217728 * 100000000) ≤ fa.toInt * mo.toInt ∧ fa.toInt * mo.toInt ≤ 50134217728 * 100000000 := by
    have u1 := Int.mul_le_mul_of_nonneg_left hm.2 hf.1
    have u2 := Int.mul_le_mul_of_nonneg_left hm.1 hf.1
    omega
  have fm' : (fa * mo).toInt = fa.toInt * mo.toInt := fb_mulL (by omega) (by omega)
  have tfm : -(500000 * 100000000) ≤ t.toInt * fa.toInt * mo.toInt ∧ t.toInt * fa.toInt * mo.toInt ≤ 500000 * 100000000 := by
    have u1 := Int.mul_le_mul_of_nonneg_left hm.2 tf0
    have u2 := Int.mul_le_mul_of_nonneg_left hm.1 tf0
    omega
  have ts : 0 ≤ t.toInt * su.toInt ∧ t.toInt * su.toInt ≤ 400 * 6000000004 := ⟨Int.mul_nonneg (by omega) (by omega), Int.mul_le_mul ht.2 hs.2 hs.1 (by omega)⟩
  have df : (1000 * su - fa * mo).toInt = 1000 * su.toInt - fa.toInt * mo.toInt := by
    rw [fb_subL (by rw [a1, fm']; omega) (by rw [a1, fm']; omega), a1, fm']
  have ex : t.toInt * (1000 * su.toInt - fa.toInt * mo.toInt) = 1000 * (t.toInt * su.toInt) - t.toInt * fa.toInt * mo.toInt := by
    rw [Int.mul_sub, Int.mul_assoc, Int.mul_left_comm]
  have pr : (t * (1000 * su - fa * mo)).toInt = 1000 * (t.toInt * su.toInt) - t.toInt * fa.toInt * mo.toInt := by
    rw [fb_mulL (by rw [df, ex]; omega) (by rw [df, ex]; omega), df, ex]
  unfold w_over
  rw [fd_toInt (by decide), pr, show (2000000 : Int64).toInt = 2000000 from rfl]
  omega
theorem g1_rng (hg : g < 3) (hn : 2 ≤ n) (hok : ∀ c, c < n → OkC M P E F c) {t : Int64} (ht : 1 ≤ t.toInt ∧ t.toInt ≤ 400) {b : Nat} (hb : b ≤ n) (hp : t * w_pace g M P E n lft rgt b ≤ 500000) : -1300000000 ≤ (w_g1 t g M P E n lft rgt b).toInt ∧ (w_g1 t g M P E n lft rgt b).toInt ≤ 1300000000 := by
  have hL := (hok _ (lf_lt hn hb)).mq hg
  have hR := (hok _ (rg_lt hn hb)).mq hg
  refine over_rng ht ?_ (pace_rng hg hn hok hb) (more_rng hn hok hb) hp
  rw [fb_addL (by omega) (by omega)]
  omega
theorem over_bd (t su fa mo : Int64) : -5000000000000 ≤ (w_over t su fa mo).toInt ∧ (w_over t su fa mo).toInt ≤ 5000000000000 := by
  unfold w_over
  have r := fb_rngL (t * (1000 * su - fa * mo))
  rw [fd_toInt (by decide), show (2000000 : Int64).toInt = 2000000 from rfl]
  omega
theorem g2_bd (t : Int64) (b : Nat) : -5000000000000 ≤ (w_g2 t g M P E n lft rgt b).toInt ∧ (w_g2 t g M P E n lft rgt b).toInt ≤ 5000000000000 := by
  unfold w_g2
  split
  · decide
  · exact over_bd ..
theorem good_ok {m p e f : Int64} (h : w_good m p e f) (hp : -3000000000 ≤ p.toInt ∧ p.toInt ≤ 3000000000) (he : -1000000000000000000 ≤ e.toInt) : (1 ≤ m.toInt ∧ m.toInt ≤ 1000000) ∧ (-50000000 ≤ p.toInt ∧ p.toInt ≤ 50000000) ∧ (0 ≤ e.toInt ∧ e.toInt ≤ 1000000000) ∧ 0 ≤ (w_within m p e).toInt ∧ 0 ≤ f.toInt ∧ f.toInt ≤ m.toInt := by
  obtain ⟨h1, h2, h3, h4⟩ := h
  have hm := w_inm h1
  have f1 : 0 ≤ f.toInt := Int64.le_iff_toInt_le.mp h2.1
  have f2 : f.toInt ≤ m.toInt := Int64.le_iff_toInt_le.mp h2.2
  have e1 : e.toInt ≤ 1000000000 := Int64.le_iff_toInt_le.mp h3
  have w1 : 0 ≤ (w_within m p e).toInt := Int64.le_iff_toInt_le.mp h4
  have ew := within_rng hm hp ⟨he, by omega⟩
  obtain ⟨s1, s2, s3⟩ := sq_rng (K := 3000000000) hp (by decide)
  have q0 := Int.ediv_nonneg s2 (show 0 ≤ 2 * m.toInt by omega)
  have q1 : p.toInt * p.toInt / (2 * m.toInt) ≤ 1000000000 := by omega
  have q2 : p.toInt * p.toInt < (1000000000 + 1) * (2 * m.toInt) := Int.lt_mul_of_ediv_lt (by omega) (by omega)
  have q3 : p.toInt * p.toInt ≤ 2000000002000000 := by omega
  have q4 : -50000000 ≤ p.toInt ∧ p.toInt ≤ 50000000 := by
    constructor
    · rcases Int.lt_or_le p.toInt (-50000000) with z | z
      · have := Int.mul_le_mul (show 50000000 ≤ -p.toInt by omega) (show 50000000 ≤ -p.toInt by omega) (by omega) (show 0 ≤ -p.toInt by omega)
        rw [Int.neg_mul_neg] at this
        omega
      · exact z
    · rcases Int.lt_or_le 50000000 p.toInt with z | z
      · have := Int.mul_le_mul (show 50000000 ≤ p.toInt by omega) (show 50000000 ≤ p.toInt by omega) (by omega) (show 0 ≤ p.toInt by omega)
        omega
      · exact z
  exact ⟨hm, q4, ⟨by omega, e1⟩, w1, f1, f2⟩
/-- cells that come out of a step that is done may stand -/
theorem next_ok (hg : g < 3) (hn : 2 ≤ n) (hok : ∀ c, c < n → OkC M P E F c) {t ign part heat : Int64} (ht : 1 ≤ t.toInt ∧ t.toInt ≤ 400) (hpt : 0 ≤ part.toInt ∧ part.toInt ≤ 100) (hht : 0 ≤ heat.toInt ∧ heat.toInt ≤ 1000) (hk : w_ok t g M P E F n lft rgt ign part heat) {c : Nat} (hc : c < n) :
    OkC (w_f0 t g M P E F n lft rgt) (w_f1 t g M P E F n lft rgt) (w_e2 t g M P E F n lft rgt ign part heat) (w_f4 t g M P E F n lft rgt ign part) c := by
  obtain ⟨hq1, hq2⟩ := hk.2 c hc
  have a := g1_rng hg hn hok ht (b := c) (by omega) (hk.1 c (by omega))
  have b := g1_rng hg hn hok ht (b := c + 1) (by omega) (hk.1 (c + 1) (by omega))
  have p0 := (hok c hc).2.1
  have e0 := (hok c hc).2.2.1
  have a2 := g2_bd (g := g) (M := M) (P := P) (E := E) (n := n) (lft := lft) (rgt := rgt) t c
  have b2 := g2_bd (g := g) (M := M) (P := P) (E := E) (n := n) (lft := lft) (rgt := rgt) t (c + 1)
  have x1 : (P c + w_g1 t g M P E n lft rgt c).toInt = (P c).toInt + (w_g1 t g M P E n lft rgt c).toInt := fb_addL (by omega) (by omega)
  have hp : -3000000000 ≤ (w_f1 t g M P E F n lft rgt c).toInt ∧ (w_f1 t g M P E F n lft rgt c).toInt ≤ 3000000000 := by
    unfold w_f1
    rw [fb_subL (by rw [x1]; omega) (by rw [x1]; omega), x1]
    omega
  have x2 : (E c + w_g2 t g M P E n lft rgt c).toInt = (E c).toInt + (w_g2 t g M P E n lft rgt c).toInt := fb_addL (by omega) (by omega)
  have x3 : (w_f2 t g M P E F n lft rgt c).toInt = (E c).toInt + (w_g2 t g M P E n lft rgt c).toInt - (w_g2 t g M P E n lft rgt (c + 1)).toInt := by
    unfold w_f2
    rw [fb_subL (by rw [x2]; omega) (by rw [x2]; omega), x2]
  have hgn : 0 ≤ (w_gn t g M P E F n lft rgt ign part c).toInt ∧ (w_gn t g M P E F n lft rgt ign part c).toInt ≤ 1000000 := by
    have hm := w_inm hq1.1
    have f1 : 0 ≤ (w_f3 t g M P E F n lft rgt c).toInt := Int64.le_iff_toInt_le.mp hq1.2.1.1
    have f2 : (w_f3 t g M P E F n lft rgt c).toInt ≤ (w_f0 t g M P E F n lft rgt c).toInt := Int64.le_iff_toInt_le.mp hq1.2.1.2
    unfold w_gn w_gone
    split
    · decide
    · have u0 : 0 ≤ (w_f3 t g M P E F n lft rgt c).toInt * part.toInt := Int.mul_nonneg f1 hpt.1
      have u1 : (w_f3 t g M P E F n lft rgt c).toInt * part.toInt ≤ (w_f3 t g M P E F n lft rgt c).toInt * 100 := Int.mul_le_mul_of_nonneg_left hpt.2 f1
      rw [fd_toInt (by decide), fb_mulL (by omega) (by omega), show (100 : Int64).toInt = 100 from rfl]
      omega
  have u0 : 0 ≤ (w_gn t g M P E F n lft rgt ign part c).toInt * heat.toInt := Int.mul_nonneg hgn.1 hht.1
  have u1 : (w_gn t g M P E F n lft rgt ign part c).toInt * heat.toInt ≤ 1000000 * 1000 := Int.mul_le_mul hgn.2 hht.2 hht.1 (by omega)
  have x4 : (w_gn t g M P E F n lft rgt ign part c * heat).toInt = (w_gn t g M P E F n lft rgt ign part c).toInt * heat.toInt := fb_mulL (by omega) (by omega)
  have he : -1000000000000000000 ≤ (w_e2 t g M P E F n lft rgt ign part heat c).toInt := by
    unfold w_e2
    rw [fb_addL (by rw [x3, x4]; omega) (by rw [x3, x4]; omega), x3, x4]
    omega
  exact good_ok hq2 hp he
end BD
/-- one step of the reference's numbers -/
def SStp (t : Int64) (g n lft rgt : Nat) (S S1 : Nat → Int64) : Prop :=
  (∀ j, j < n → S1 (8 + j) = w_f0 t g (sM S) (sP S) (sE S) (sF S) n lft rgt j ∧ S1 (40 + j) = w_f1 t g (sM S) (sP S) (sE S) (sF S) n lft rgt j ∧ S1 (72 + j) = w_e2 t g (sM S) (sP S) (sE S) (sF S) n lft rgt (S 1) (S 2) (S 3) j ∧ S1 (104 + j) = w_f4 t g (sM S) (sP S) (sE S) (sF S) n lft rgt (S 1) (S 2) j) ∧
  S1 7 = S 7 + 1 ∧
  (S1 136 = S 136 + (w_g0 t g (sM S) (sP S) (sE S) n lft rgt 0 - w_g0 t g (sM S) (sP S) (sE S) n lft rgt n) ∧ S1 137 = S 137 + (w_g1 t g (sM S) (sP S) (sE S) n lft rgt 0 - w_g1 t g (sM S) (sP S) (sE S) n lft rgt n) ∧ S1 138 = S 138 + (w_g2 t g (sM S) (sP S) (sE S) n lft rgt 0 - w_g2 t g (sM S) (sP S) (sE S) n lft rgt n) ∧ S1 139 = S 139 + (w_g3 t g (sM S) (sP S) (sE S) (sF S) n lft rgt 0 - w_g3 t g (sM S) (sP S) (sE S) (sF S) n lft rgt n)) ∧
  (S1 140 = S 140 + w_sum (fun j => w_gn t g (sM S) (sP S) (sE S) (sF S) n lft rgt (S 1) (S 2) j * S 3) n ∧ S1 141 = S 141 + w_sum (w_gn t g (sM S) (sP S) (sE S) (sF S) n lft rgt (S 1) (S 2)) n) ∧
  (∀ j, j < n → S1 (146 + j) = (if S (146 + j) < w_pr g (sM S1) (sP S1) (sE S1) j then w_pr g (sM S1) (sP S1) (sE S1) j else S (146 + j)) ∧ S1 (178 + j) = (if S (146 + j) < w_pr g (sM S1) (sP S1) (sE S1) j then S 7 + 1 else S (178 + j))) ∧
  ∀ j, j < 7 ∨ (142 ≤ j ∧ j < 146) ∨ 210 ≤ j → S1 j = S j
abbrev sOk (t : Int64) (g n lft rgt : Nat) (S : Nat → Int64) : Prop := w_ok t g (sM S) (sP S) (sE S) (sF S) n lft rgt (S 1) (S 2) (S 3)
theorem OkC.cong {M P E F M' P' E' F' : Nat → Int64} {k : Nat} (h : OkC M P E F k) (h1 : M' k = M k) (h2 : P' k = P k) (h3 : E' k = E k) (h4 : F' k = F k) : OkC M' P' E' F' k := by
  unfold OkC at h ⊢
  rw [h1, h2, h3, h4]
  exact h
theorem TS.next {S S1 : Nat → Int64} {g n lft rgt : Nat} {t : Int64} (hT : TS S g n lft rgt) (ht : 1 ≤ t.toInt ∧ t.toInt ≤ 400) (hk : sOk t g n lft rgt S) (h : SStp t g n lft rgt S S1) : TS S1 g n lft rgt := by
  obtain ⟨hg, hS0, ⟨hn2, hn⟩, hS4, ⟨hl1, hS5⟩, ⟨hr1, hS6⟩, hpt, hht, hok⟩ := hT
  obtain ⟨h1, h2, h3, h4, h5, h6⟩ := h
  refine ⟨hg, by rw [h6 0 (by omega)]; exact hS0, ⟨hn2, hn⟩, by rw [h6 4 (by omega)]; exact hS4, ⟨hl1, by rw [h6 5 (by omega)]; exact hS5⟩, ⟨hr1, by rw [h6 6 (by omega)]; exact hS6⟩, by rw [h6 2 (by omega)]; exact hpt, by rw [h6 3 (by omega)]; exact hht, fun c hc => ?_⟩
  obtain ⟨q0, q1, q2, q3⟩ := h1 c hc
  exact (next_ok hg hn2 hok ht hpt hht hk hc).cong q0 q1 q2 q3

