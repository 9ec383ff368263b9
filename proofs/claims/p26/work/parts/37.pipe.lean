/-! the class's pipe, in numbers -/
theorem mul_bd {a b A B : Int} (ha : -A ≤ a ∧ a ≤ A) (hb : -B ≤ b ∧ b ≤ B) : -(A * B) ≤ a * b ∧ a * b ≤ A * B := by
  have h1 := Int.mul_nonneg (show 0 ≤ A - a by omega) (show 0 ≤ B + b by omega)
  have h2 := Int.mul_nonneg (show 0 ≤ A + a by omega) (show 0 ≤ B - b by omega)
  have h3 := Int.mul_nonneg (show 0 ≤ A - a by omega) (show 0 ≤ B - b by omega)
  have h4 := Int.mul_nonneg (show 0 ≤ A + a by omega) (show 0 ≤ B + b by omega)
  rw [Int.sub_mul, Int.mul_add, Int.mul_add] at h1
  rw [Int.add_mul, Int.mul_sub, Int.mul_sub] at h2
  rw [Int.sub_mul, Int.mul_sub, Int.mul_sub] at h3
  rw [Int.add_mul, Int.mul_add, Int.mul_add] at h4
  constructor <;> omega
def Bd (x : Int64) (K : Int) : Prop := -K ≤ x.toInt ∧ x.toInt ≤ K
theorem Bd.mul {x y : Int64} {A B : Int} (ha : Bd x A) (hb : Bd y B) (h : A * B < 9223372036854775808) : Bd (x * y) (A * B) := by
  have := mul_bd ha hb
  unfold Bd
  rw [fb_mulL (by omega) (by omega)]
  exact this
theorem Bd.add {x y : Int64} {A B : Int} (ha : Bd x A) (hb : Bd y B) (h : A + B < 9223372036854775808) : Bd (x + y) (A + B) := by
  unfold Bd at *
  rw [fb_addL (by omega) (by omega)]
  omega
theorem Bd.sub {x y : Int64} {A B : Int} (ha : Bd x A) (hb : Bd y B) (h : A + B < 9223372036854775808) : Bd (x - y) (A + B) := by
  unfold Bd at *
  rw [fb_subL (by omega) (by omega)]
  omega
theorem tdv_bd {a b K : Int} (hb : 0 < b) (h : -K ≤ a ∧ a ≤ K) : -K ≤ a.tdiv b ∧ a.tdiv b ≤ K := by
  rcases Int.lt_or_le a 0 with z | z
  · have e : a.tdiv b = -((-a) / b) := by
      conv => lhs; rw [show a = -(-a) by omega, Int.neg_tdiv, Int.tdiv_eq_ediv_of_nonneg (by omega)]
    have h3 := Int.ediv_le_self b (show 0 ≤ -a by omega)
    have h4 := Int.ediv_nonneg (show 0 ≤ -a by omega) (show 0 ≤ b by omega)
    omega
  · rw [Int.tdiv_eq_ediv_of_nonneg z]
    have h3 := Int.ediv_le_self b z
    have h4 := Int.ediv_nonneg z (show 0 ≤ b by omega)
    omega
theorem Bd.div {x y : Int64} {A : Int} (ha : Bd x A) (hy : 0 < y.toInt) : Bd (x / y) A := by
  unfold Bd
  rw [div_toInt hy]
  exact tdv_bd hy ha
theorem Bd.fd {x y : Int64} {A : Int} (ha : Bd x A) (hy : 0 < y.toInt) : Bd (fd x y) A := by
  unfold Bd
  rw [fd_toInt hy]
  exact ediv_bd hy ha
theorem Bd.sz {x : Int64} {A : Int} (ha : Bd x A) (h : A < 9223372036854775808) : Bd (w_sz x) A := by
  have := sz_rng ha h
  exact ⟨by omega, this.2⟩
theorem Bd.to {x : Int64} {A B : Int} (h : Bd x A) (hAB : A ≤ B) : Bd x B := by unfold Bd at *; omega
theorem Bd.nat {a K : Nat} (h : a ≤ K) (hK : K < 2 ^ 31) : Bd (lN a) (K : Int) := by
  unfold Bd
  rw [pk_lT (by omega)]
  omega
theorem Bd.win {x : Int64} {K : Int64} (h : w_in x (-K) K) (hk : 0 ≤ K.toInt) : Bd x K.toInt := by
  obtain ⟨h1, h2⟩ := h
  have h1 := Int64.le_iff_toInt_le.mp h1
  have h2 := Int64.le_iff_toInt_le.mp h2
  have r := fb_rngL K
  rw [Int64.toInt_neg, fb_bmodL (by omega) (by omega)] at h1
  exact ⟨h1, h2⟩
theorem abL_in {x K : Int64} (hk : 0 ≤ K.toInt) (hx : -9223372036854775808 < x.toInt) : abL x ≤ K ↔ w_in x (-K) K := by
  have r := fb_rngL K
  have r2 := fb_rngL x
  have en : (-K).toInt = -K.toInt := by rw [Int64.toInt_neg, fb_bmodL (by omega) (by omega)]
  have ex : (-x).toInt = -x.toInt := by rw [Int64.toInt_neg, fb_bmodL (by omega) (by omega)]
  unfold w_in
  rw [abL_sz, Int64.le_iff_toInt_le, Int64.le_iff_toInt_le, Int64.le_iff_toInt_le, en]
  unfold w_sz
  split
  · next h => rw [lt0] at h; rw [ex]; omega
  · next h => rw [lt0] at h; omega
theorem mxL_lt (x y : Int64) : mxL x y = if x < y then y else x := by
  unfold mxL
  by_cases h : y < x
  · rw [if_pos h, if_neg (fun z => absurd h (Int64.not_lt.mpr (Int64.le_of_lt z)))]
  · rw [if_neg h]
    split
    · rfl
    · next q =>
      have h1 := Int64.le_iff_toInt_le.mp (Int64.not_lt.mp h)
      have h2 := Int64.le_iff_toInt_le.mp (Int64.not_lt.mp q)
      rw [← Int64.toInt_inj]; omega
/-- the pipe of the class, standing -/
def PW (la im fr lo op rs : Nat) (hd fl : Nat → Int64) : Prop := (1 ≤ la ∧ la ≤ 20) ∧ (1 ≤ im ∧ im ≤ 50) ∧ fr ≤ 20 ∧ (1 ≤ lo ∧ lo ≤ 50) ∧ op ≤ 100 ∧ rs ≤ 2000 ∧ ∀ k, k ≤ la → w_in (hd k) (-1000000) 1000000 ∧ w_in (fl k) (-100000) 100000
section PB
variable {la im fr lo op rs : Nat} {hd fl cv : Nat → Int64}
theorem PW.im0 (h : PW la im fr lo op rs hd fl) : ¬ lN im = 0 := lNp h.2.1.1 (by have := h.2.1.2; omega)
theorem PW.imp (h : PW la im fr lo op rs hd fl) : 0 < (lN im).toInt := by rw [pk_lT (by have := h.2.1.2; omega)]; have := h.2.1.1; omega
theorem PW.bh (h : PW la im fr lo op rs hd fl) {k : Nat} (hk : k ≤ la) : Bd (hd k) 1000000 := Bd.win (K := 1000000) (h.2.2.2.2.2.2 k hk).1 (by decide)
theorem PW.bf (h : PW la im fr lo op rs hd fl) {k : Nat} (hk : k ≤ la) : Bd (fl k) 100000 := Bd.win (K := 100000) (h.2.2.2.2.2.2 k hk).2 (by decide)
theorem PW.rub (h : PW la im fr lo op rs hd fl) {k : Nat} (hk : k ≤ la) : Bd (p_rub (lN fr) fl k) 200000000000 :=
  Bd.div (((Bd.nat (K := 20) h.2.2.1 (by decide)).mul (h.bf hk) (by decide)).mul ((h.bf hk).sz (by decide)) (by decide)) (by decide)
theorem PW.bfl (h : PW la im fr lo op rs hd fl) {k : Nat} (hk : k ≤ la) : Bd (lN im * fl k) 5000000 := (Bd.nat (K := 50) h.2.1.2 (by decide)).mul (h.bf hk) (by decide)
theorem PW.l (h : PW la im fr lo op rs hd fl) {k : Nat} (hk : k ≤ la + 1) : Bd (p_l hd fl (lN im) (lN fr) k) 300000000000 :=
  (((h.bh (k := k - 1) (by omega)).add (h.bfl (by omega)) (by decide)).sub (h.rub (by omega)) (by decide)).to (by decide)
theorem PW.r (h : PW la im fr lo op rs hd fl) {k : Nat} (hk : k < la) : Bd (p_r hd fl (lN im) (lN fr) k) 300000000000 :=
  (((h.bh (k := k + 1) (by omega)).sub (h.bfl (by omega)) (by decide)).add (h.rub (by omega)) (by decide)).to (by decide)
theorem PW.d (h : PW la im fr lo op rs hd fl) {k : Nat} (hk : k ≤ la) : Bd (p_d hd fl (lN im) (lN fr) la k) 300000000000 := by
  unfold p_d
  split
  · exact ⟨by decide, by decide⟩
  · exact h.r (by omega)
theorem PW.den (h : PW la im fr lo op rs hd fl) : 0 < (100 * lN lo + lN op * lN im).toInt := by
  have h1 := h.2.2.2.1; have h2 := h.2.2.2.2.1; have h3 := h.2.1
  have h4 := Nat.mul_le_mul h2 h3.2
  rw [show (100 : Int64) = lN 100 from rfl, lN_mul, lN_mul, lN_add, pk_lT (by omega)]
  omega
theorem PW.bfw (h : PW la im fr lo op rs hd fl) {k : Nat} (hk : k ≤ la) : Bd (p_fl hd fl (lN im) (lN fr) (lN lo) (lN op) la k) 30000000000000 := by
  unfold p_fl
  split
  · exact (((h.l (by omega)).sub (h.d hk) (by decide)).div (by rw [show (2 : Int64) = lN 2 from rfl, lN_mul, pk_lT (by have := h.2.1.2; omega)]; have := h.2.1.1; omega)).to (by decide)
  · split
    · exact ⟨by decide, by decide⟩
    · exact ((((Bd.nat (K := 100) h.2.2.2.2.1 (by decide)).mul (h.l (k := k) (by omega)) (by decide))).div h.den).to (by decide)
theorem PW.bhd (h : PW la im fr lo op rs hd fl) {k : Nat} (hk : k ≤ la) : Bd (p_hd hd fl (lN im) (lN fr) (lN lo) (lN op) la k) 9000000000000000 := by
  unfold p_hd
  split
  · exact (((h.l (by omega)).add (h.d hk) (by decide)).fd (by decide)).to (by decide)
  · exact ((h.l (by omega)).sub ((Bd.nat (K := 50) h.2.1.2 (by decide)).mul (h.bfw hk) (by decide)) (by decide)).to (by decide)
theorem PW.go (h : PW la im fr lo op rs hd fl) {k : Nat} (hk : k ≤ la) : Bd (p_go hd fl (lN im) (lN fr) la k) 9000000000000000 := by
  unfold p_go
  split
  · exact ⟨by decide, by decide⟩
  · exact ((Bd.sub (x := -100) (A := 100) ⟨by decide, by decide⟩ (h.d hk) (by decide)).div h.imp).to (by decide)
theorem PW.nh (h : PW la im fr lo op rs hd fl) {k : Nat} (hk : k ≤ la) : Bd (p_nh hd fl cv (lN im) (lN fr) (lN lo) (lN rs) (lN op) la k) 9000000000000000 := by
  unfold p_nh
  split
  · exact (Bd.nat (K := 2000) h.2.2.2.2.2.1 (by decide)).to (by decide)
  · split
    · exact ⟨by decide, by decide⟩
    · exact h.bhd hk
theorem PW.nf (h : PW la im fr lo op rs hd fl) {k : Nat} (hk : k ≤ la) : Bd (p_nf hd fl cv (lN im) (lN fr) (lN lo) (lN rs) (lN op) la k) 9000000000000000 := by
  unfold p_nf
  split
  · exact ((Bd.sub (Bd.nat (K := 2000) h.2.2.2.2.2.1 (by decide)) (h.r (k := 0) (by have := h.1.1; omega)) (by decide)).div h.imp).to (by decide)
  · split
    · exact h.go hk
    · exact (h.bfw hk).to (by decide)
end PB
/-- what a cavity would be -/
def p_cx (c h g x b : Int64) : Int64 := if 0 < c ∨ h < -100 then c + g - (x + 100) / b else 0
def CavQ (b c9 go9 cvk : Int64) (k : Nat) (nh nf nc nh1 nf1 nc1 : Nat → Int64) : Prop := (nh1 k = (if 0 < p_cx cvk (nh k) go9 c9 b then -100 else nh k) ∧ nf1 k = (if 0 < p_cx cvk (nh k) go9 c9 b then go9 else nf k) ∧ nc1 k = (if 0 < p_cx cvk (nh k) go9 c9 b then p_cx cvk (nh k) go9 c9 b else 0)) ∧ ∀ j, j ≠ k → nh1 j = nh j ∧ nf1 j = nf j ∧ nc1 j = nc j
section CV
variable {b c9 go9 cvk : Int64} {k : Nat} {nh nf nc nh1 nf1 nc1 nc2 : Nat → Int64}
theorem cav_none (h1 : ¬ 0 < cvk) (h2 : ¬ nh k < -100) (e : nc1 = vp_updL nc k 0) : CavQ b c9 go9 cvk k nh nf nc nh nf nc1 := by
  have z : p_cx cvk (nh k) go9 c9 b = 0 := if_neg (fun q => q.elim h1 h2)
  have z0 : ¬ (0 : Int64) < 0 := Int64.lt_irrefl
  unfold CavQ
  rw [z, if_neg z0, if_neg z0, if_neg z0, e]
  exact ⟨⟨rfl, rfl, pk_uLs⟩, fun j hj => ⟨rfl, rfl, pk_uLn hj⟩⟩
theorem cav_low (h1 : 0 < cvk ∨ nh k < -100) (h2 : cvk + go9 - (c9 + 100) / b ≤ 0) (e : nc1 = vp_updL nc k 0) : CavQ b c9 go9 cvk k nh nf nc nh nf nc1 := by
  have z : p_cx cvk (nh k) go9 c9 b = cvk + go9 - (c9 + 100) / b := if_pos h1
  have z0 : ¬ 0 < cvk + go9 - (c9 + 100) / b := Int64.not_lt.mpr h2
  unfold CavQ
  rw [z, if_neg z0, if_neg z0, if_neg z0, e]
  exact ⟨⟨rfl, rfl, pk_uLs⟩, fun j hj => ⟨rfl, rfl, pk_uLn hj⟩⟩
theorem cav_has (h1 : 0 < cvk ∨ nh k < -100) (h2 : ¬ cvk + go9 - (c9 + 100) / b ≤ 0) (e : nc1 = vp_updL nc k 0) (e2 : nc2 = vp_updL nc1 k (cvk + go9 - (c9 + 100) / b)) (e3 : nh1 = vp_updL nh k (-100)) (e4 : nf1 = vp_updL nf k go9) : CavQ b c9 go9 cvk k nh nf nc nh1 nf1 nc2 := by
  have z : p_cx cvk (nh k) go9 c9 b = cvk + go9 - (c9 + 100) / b := if_pos h1
  have z0 : 0 < cvk + go9 - (c9 + 100) / b := Int64.not_le.mp h2
  unfold CavQ
  rw [z, if_pos z0, if_pos z0, if_pos z0, e2, e3, e4]
  exact ⟨⟨pk_uLs, pk_uLs, pk_uLs⟩, fun j hj => ⟨pk_uLn hj, pk_uLn hj, by rw [pk_uLn hj, e, pk_uLn hj]⟩⟩
end CV
def NodQ (hd fl cv : Nat → Int64) (b r z src op : Int64) (la k : Nat) (nh nf nc nh1 nf1 nc1 : Nat → Int64) : Prop := (nh1 k = p_nh hd fl cv b r z src op la k ∧ nf1 k = p_nf hd fl cv b r z src op la k ∧ nc1 k = p_nc hd fl cv b r z src op la k) ∧ ∀ j, j ≠ k → nh1 j = nh j ∧ nf1 j = nf j ∧ nc1 j = nc j
def NodR (hd fl cv : Nat → Int64) (b r z src op : Int64) (la : Nat) (nh nf nc : Nat → Int64) (i : Nat) : Prop := ∀ k, k < i → nh k = p_nh hd fl cv b r z src op la k ∧ nf k = p_nf hd fl cv b r z src op la k ∧ nc k = p_nc hd fl cv b r z src op la k
theorem nod_step {hd fl cv nh nf nc nh1 nf1 nc1 : Nat → Int64} {b r z src op : Int64} {la i : Nat} (h : NodR hd fl cv b r z src op la nh nf nc i) (q : NodQ hd fl cv b r z src op la i nh nf nc nh1 nf1 nc1) : NodR hd fl cv b r z src op la nh1 nf1 nc1 (i + 1) := by
  intro k hk
  obtain ⟨q1, q2⟩ := q
  rcases Nat.lt_succ_iff_lt_or_eq.mp hk with w | rfl
  · obtain ⟨e0, e1, e2⟩ := q2 k (by omega)
    rw [e0, e1, e2]
    exact h k w
  · exact q1
section ND
variable {hd fl cv nh nf nc nh1 nf1 nc1 nh2 nf2 nc2 : Nat → Int64} {b r z src op : Int64} {la k : Nat}
theorem nod_0 (e0 : nh1 = vp_updL nh 0 src) (e1 : nf1 = vp_updL nf 0 ((src - p_r hd fl b r 0) / b)) (e2 : nc1 = vp_updL nc 0 0) : NodQ hd fl cv b r z src op la 0 nh nf nc nh1 nf1 nc1 := by
  rw [e0, e1, e2]
  exact ⟨⟨pk_uLs.trans (if_pos rfl).symm, pk_uLs.trans (if_pos rfl).symm, pk_uLs.trans (if_pos rfl).symm⟩, fun j hj => ⟨pk_uLn hj, pk_uLn hj, pk_uLn hj⟩⟩
theorem nod_cav (hk : ¬ k = 0) {c9 go9 : Int64} (e0 : nh1 = vp_updL nh k (p_hd hd fl b r z op la k)) (e1 : nf1 = vp_updL nf k (p_fl hd fl b r z op la k)) (hc : c9 = p_l hd fl b r k) (hg : go9 = p_go hd fl b r la k) (h : CavQ b c9 go9 (cv k) k nh1 nf1 nc nh2 nf2 nc2) : NodQ hd fl cv b r z src op la k nh nf nc nh2 nf2 nc2 := by
  obtain ⟨⟨h1, h2, h3⟩, h4⟩ := h
  have a0 : nh1 k = p_hd hd fl b r z op la k := by rw [e0, pk_uLs]
  have a1 : nf1 k = p_fl hd fl b r z op la k := by rw [e1, pk_uLs]
  have ex : p_cx (cv k) (nh1 k) go9 c9 b = p_cv hd fl cv b r z op la k := by rw [a0, hc, hg]; rfl
  rw [ex] at h1 h2 h3
  rw [a0] at h1
  rw [a1, hg] at h2
  refine ⟨⟨h1.trans (if_neg hk).symm, h2.trans (if_neg hk).symm, h3.trans (if_neg hk).symm⟩, fun j hj => ?_⟩
  obtain ⟨b0, b1, b2⟩ := h4 j hj
  exact ⟨by rw [b0, e0, pk_uLn hj], by rw [b1, e1, pk_uLn hj], b2⟩
theorem p_hd_b (hk : k < la) : fd (p_l hd fl b r k + p_r hd fl b r k) 2 = p_hd hd fl b r z op la k := by unfold p_hd p_d; rw [if_pos hk, if_neg (by omega)]
theorem p_fl_b (hk : k < la) : (p_l hd fl b r k - p_r hd fl b r k) / (2 * b) = p_fl hd fl b r z op la k := by unfold p_fl p_d; rw [if_pos hk, if_neg (by omega)]
theorem p_go_b (hk : k < la) : ((-100) - p_r hd fl b r k) / b = p_go hd fl b r la k := by unfold p_go p_d; rw [if_neg (by omega), if_neg (by omega)]
theorem p_go_v : 0 = p_go hd fl b r la la := (if_pos rfl).symm
theorem p_fl_v0 (h : p_l hd fl b r la < 0) : 0 = p_fl hd fl b r z op la la := by unfold p_fl; rw [if_neg (Nat.lt_irrefl _), if_pos h]
theorem p_fl_v1 (h : ¬ p_l hd fl b r la < 0) : op * p_l hd fl b r la / (100 * z + op * b) = p_fl hd fl b r z op la la := by unfold p_fl; rw [if_neg (Nat.lt_irrefl _), if_neg h]
theorem p_hd_v : p_l hd fl b r la - b * p_fl hd fl b r z op la la = p_hd hd fl b r z op la la := (if_neg (Nat.lt_irrefl _)).symm
end ND
/-- one tick of the class's pipe -/
def CPS (hd fl cv gt : Nat → Int64) (b r z src op : Int64) (la : Nat) (hd1 fl1 cv1 gt1 : Nat → Int64) : Prop := ∀ k, k ≤ la → hd1 k = p_nh hd fl cv b r z src op la k ∧ fl1 k = p_nf hd fl cv b r z src op la k ∧ cv1 k = p_nc hd fl cv b r z src op la k ∧ gt1 k = (if gt k < p_nh hd fl cv b r z src op la k then p_nh hd fl cv b r z src op la k else gt k)
theorem gt_step {i : Nat} {gt h gt1 Tg : Nat → Int64} (hT : (∀ j, j < i → Tg j = (if gt j < h j then h j else gt j)) ∧ ∀ j, i ≤ j → Tg j = gt j) (e : gt1 = vp_updL Tg i (mxL (Tg i) (h i))) : (∀ j, j < i + 1 → gt1 j = (if gt j < h j then h j else gt j)) ∧ ∀ j, i + 1 ≤ j → gt1 j = gt j := by
  subst e
  constructor
  · intro j hj
    by_cases q : j = i
    · subst q; rw [pk_uLs, hT.2 j (Nat.le_refl _), mxL_lt]
    · rw [pk_uLn q]; exact hT.1 j (by omega)
  · intro j hj
    rw [pk_uLn (by omega)]; exact hT.2 j (by omega)

set_option maxHeartbeats 4000000 in
set_option maxRecDepth 100000 in
theorem c_Pipe_rubbed (l : Launch) (D : va_G) (ct : Nat → ClassId) (st : Nat → Nat) (pa : Nat → Nat) (la : Nat) (im : Nat) (fr9 : Nat) (lo9 : Nat) (op9 : Nat) (rs9 : Nat) (hd : Nat → Int64) (fl : Nat → Int64) (cv : Nat → Int64) (gt : Nat → Int64) (nh : Nat → Int64) (nf : Nat → Int64) (nc : Nat → Int64) (k : Nat) (hk : k < 21) (hfr : fr9 ≤ 20) : Met l y_Pipe_rubbed (wsy y_Pipe_rubbed b_Pipe_rubbed 2 (some .long)) (k2_rm 1 15) (PcR D ct st [.ref (pa 0), .int (nI k)] [((pa 0), .inr (2, [.int (nI (la + 1)), .int (nI im), .int (nI fr9), .int (nI lo9), .int (nI op9), .int (nI rs9), .ref (pa 1), .ref (pa 2), .ref (pa 3), .ref (pa 4), .ref (pa 5), .ref (pa 6), .ref (pa 7)])), ((pa 1), .inl (ct 1, 21, .inr (.inl hd))), ((pa 2), .inl (ct 1, 21, .inr (.inl fl))), ((pa 3), .inl (ct 1, 21, .inr (.inl cv))), ((pa 4), .inl (ct 1, 21, .inr (.inl gt))), ((pa 5), .inl (ct 1, 21, .inr (.inl nh))), ((pa 6), .inl (ct 1, 21, .inr (.inl nf))), ((pa 7), .inl (ct 1, 21, .inr (.inl nc)))]) (k2_QcV (.long (p_rub (lN fr9) fl k))) 0 0 (fun _ => False) := by
  refine enterR (by decide) (Nat.le_of_ble_eq_true rfl) ?_
  intro p e s m args below meth c ls hx hb hr hml hown hts hlk hP hE hV hS hl
  have hl : lv_has ls 2 [(0, .ref (pa 0)), (1, .int (nI k))] := hl
  refine lv_aload_n hx hb d_Pipe_rubbed_0 rfl (lv_at hl 0 rfl) ?_
  refine q_get 0 2 i_Pipe rfl hx hb hts hown hE hP rfl (by decide) x_179 rfl d_Pipe_rubbed_1 ?_
  refine lv_i2l (v := lN fr9) hx hb d_Pipe_rubbed_4 (nI_l (by omega)) ?_
  refine lv_aload_n hx hb d_Pipe_rubbed_5 rfl (lv_at hl 0 rfl) ?_
  refine q_get 0 7 i_Pipe rfl hx hb hts hown hE hP rfl (by decide) x_187 rfl d_Pipe_rubbed_6 ?_
  refine lv_iload_n hx hb d_Pipe_rubbed_9 rfl (lv_at hl 1 rfl) ?_
  refine q_lald (k := k) 2 hx hb hE hP rfl rfl (by omega) (by decide) d_Pipe_rubbed_10 ?_
  refine lv_lmul hx hb d_Pipe_rubbed_11 ?_
  refine lv_aload_n hx hb d_Pipe_rubbed_12 rfl (lv_at hl 0 rfl) ?_
  refine q_get 0 7 i_Pipe rfl hx hb hts hown hE hP rfl (by decide) x_187 rfl d_Pipe_rubbed_13 ?_
  refine lv_iload_n hx hb d_Pipe_rubbed_16 rfl (lv_at hl 1 rfl) ?_
  refine q_lald (k := k) 2 hx hb hE hP rfl rfl (by omega) (by decide) d_Pipe_rubbed_17 ?_
  refine va_mabs_long hx hb (by rw [hml]; exact hl.1.symm) hown (hts _ (List.mem_cons_of_mem _ x_755)) (hts _ (List.mem_cons_of_mem _ x_517)) (hts _ (List.mem_cons_of_mem _ x_13)) (hts _ (List.mem_cons_of_mem _ x_518)) (Nat.le_of_ble_eq_true rfl) (Nat.le_of_ble_eq_true rfl) (Nat.zero_le _) (Nat.zero_le _) d_Pipe_rubbed_18 ?_
  refine q_topl (v := (abL (fl k))) rfl ?_
  refine q_topl (v := (w_sz (fl k))) (abL_sz _) ?_
  refine lv_lmul hx hb d_Pipe_rubbed_21 ?_
  refine lv_ldc2 (v := 100) hx hb hown (hts _ (List.mem_cons_of_mem _ x_756)) d_Pipe_rubbed_22 ?_
  refine lv_ldiv hx hb d_Pipe_rubbed_25 (by decide) ?_
  exact rR_l hx hb hr hlk d_Pipe_rubbed_26 (rfl)
set_option maxHeartbeats 4000000 in
set_option maxRecDepth 100000 in
theorem c_Pipe_fromLeft (l : Launch) (D : va_G) (ct : Nat → ClassId) (st : Nat → Nat) (pa : Nat → Nat) (la : Nat) (im : Nat) (fr9 : Nat) (lo9 : Nat) (op9 : Nat) (rs9 : Nat) (hd : Nat → Int64) (fl : Nat → Int64) (cv : Nat → Int64) (gt : Nat → Int64) (nh : Nat → Int64) (nf : Nat → Int64) (nc : Nat → Int64) (k : Nat) (hk : 1 ≤ k ∧ k ≤ 20) (hfr : fr9 ≤ 20) (him : im ≤ 50) : Met l y_Pipe_fromLeft (wsy y_Pipe_fromLeft b_Pipe_fromLeft 3 (some .long)) (k2_rm 2 36) (PcR D ct st [.ref (pa 0), .int (nI k)] [((pa 0), .inr (2, [.int (nI (la + 1)), .int (nI im), .int (nI fr9), .int (nI lo9), .int (nI op9), .int (nI rs9), .ref (pa 1), .ref (pa 2), .ref (pa 3), .ref (pa 4), .ref (pa 5), .ref (pa 6), .ref (pa 7)])), ((pa 1), .inl (ct 1, 21, .inr (.inl hd))), ((pa 2), .inl (ct 1, 21, .inr (.inl fl))), ((pa 3), .inl (ct 1, 21, .inr (.inl cv))), ((pa 4), .inl (ct 1, 21, .inr (.inl gt))), ((pa 5), .inl (ct 1, 21, .inr (.inl nh))), ((pa 6), .inl (ct 1, 21, .inr (.inl nf))), ((pa 7), .inl (ct 1, 21, .inr (.inl nc)))]) (k2_QcV (.long (p_l hd fl (lN im) (lN fr9) k))) 0 0 (fun _ => False) := by
  refine enterR (by decide) (Nat.le_of_ble_eq_true rfl) ?_
  intro p e s m args below meth c ls hx hb hr hml hown hts hlk hP hE hV hS hl
  have hl : lv_has ls 3 [(0, .ref (pa 0)), (1, .int (nI k))] := hl
  refine lv_iload_n hx hb d_Pipe_fromLeft_0 rfl (lv_at hl 1 rfl) ?_
  refine lv_iconst (v := 1) hx hb d_Pipe_fromLeft_1 (by decide) ?_
  refine q_isub (v := nI (k - 1)) hx hb d_Pipe_fromLeft_2 (pk_sub (a := k) (b := 1) (by omega)) ?_
  refine lv_istore_n (lv' := [(2, .int (nI (k - 1))), (0, .ref (pa 0)), (1, .int (nI k))]) hx hb d_Pipe_fromLeft_3 rfl hl (by decide) rfl (fun ls hl => ?_)
  refine lv_aload_n hx hb d_Pipe_fromLeft_4 rfl (lv_at hl 1 rfl) ?_
  refine q_get 0 6 i_Pipe rfl hx hb hts hown hE hP rfl (by decide) x_186 rfl d_Pipe_fromLeft_5 ?_
  refine lv_iload_n hx hb d_Pipe_fromLeft_8 rfl (lv_at hl 0 rfl) ?_
  refine q_lald (k := k - 1) 1 hx hb hE hP rfl rfl (by omega) (by decide) d_Pipe_fromLeft_9 ?_
  refine lv_aload_n hx hb d_Pipe_fromLeft_10 rfl (lv_at hl 1 rfl) ?_
  refine q_get 0 1 i_Pipe rfl hx hb hts hown hE hP rfl (by decide) x_177 rfl d_Pipe_fromLeft_11 ?_
  refine lv_i2l (v := lN im) hx hb d_Pipe_fromLeft_14 (nI_l (by omega)) ?_
  refine lv_aload_n hx hb d_Pipe_fromLeft_15 rfl (lv_at hl 1 rfl) ?_
  refine q_get 0 7 i_Pipe rfl hx hb hts hown hE hP rfl (by decide) x_187 rfl d_Pipe_fromLeft_16 ?_
  refine lv_iload_n hx hb d_Pipe_fromLeft_19 rfl (lv_at hl 0 rfl) ?_
  refine q_lald (k := k - 1) 2 hx hb hE hP rfl rfl (by omega) (by decide) d_Pipe_fromLeft_20 ?_
  refine lv_lmul hx hb d_Pipe_fromLeft_21 ?_
  refine lv_ladd hx hb d_Pipe_fromLeft_22 ?_
  refine lv_aload_n hx hb d_Pipe_fromLeft_23 rfl (lv_at hl 1 rfl) ?_
  refine lv_iload_n hx hb d_Pipe_fromLeft_24 rfl (lv_at hl 0 rfl) ?_
  refine cRV (As := [.int (nI (k - 1))]) (rest := [.long ((hd (k - 1)) + ((lN im) * (fl (k - 1))))]) (q9 := 0) (ci := 2) K_Pipe_rubbed x_751 hx hb hml hown hts hE hV hS (c_Pipe_rubbed l D ct st pa la im fr9 lo9 op9 rs9 hd fl cv gt nh nf nc (k - 1) (by omega) (by omega)) hP rfl hP rfl rfl hl.1 rfl (Nat.le_of_ble_eq_true rfl) d_Pipe_fromLeft_25 (Nat.le_of_ble_eq_true rfl) (Nat.le_of_ble_eq_true rfl) ⟨Nat.zero_le _, Nat.zero_le _⟩ ?_
  refine lv_lsub hx hb d_Pipe_fromLeft_28 ?_
  exact rR_l hx hb hr hlk d_Pipe_fromLeft_29 (rfl)
set_option maxHeartbeats 4000000 in
set_option maxRecDepth 100000 in
theorem c_Pipe_fromRight (l : Launch) (D : va_G) (ct : Nat → ClassId) (st : Nat → Nat) (pa : Nat → Nat) (la : Nat) (im : Nat) (fr9 : Nat) (lo9 : Nat) (op9 : Nat) (rs9 : Nat) (hd : Nat → Int64) (fl : Nat → Int64) (cv : Nat → Int64) (gt : Nat → Int64) (nh : Nat → Int64) (nf : Nat → Int64) (nc : Nat → Int64) (k : Nat) (hk : k < 20) (hfr : fr9 ≤ 20) (him : im ≤ 50) : Met l y_Pipe_fromRight (wsy y_Pipe_fromRight b_Pipe_fromRight 3 (some .long)) (k2_rm 2 36) (PcR D ct st [.ref (pa 0), .int (nI k)] [((pa 0), .inr (2, [.int (nI (la + 1)), .int (nI im), .int (nI fr9), .int (nI lo9), .int (nI op9), .int (nI rs9), .ref (pa 1), .ref (pa 2), .ref (pa 3), .ref (pa 4), .ref (pa 5), .ref (pa 6), .ref (pa 7)])), ((pa 1), .inl (ct 1, 21, .inr (.inl hd))), ((pa 2), .inl (ct 1, 21, .inr (.inl fl))), ((pa 3), .inl (ct 1, 21, .inr (.inl cv))), ((pa 4), .inl (ct 1, 21, .inr (.inl gt))), ((pa 5), .inl (ct 1, 21, .inr (.inl nh))), ((pa 6), .inl (ct 1, 21, .inr (.inl nf))), ((pa 7), .inl (ct 1, 21, .inr (.inl nc)))]) (k2_QcV (.long (p_r hd fl (lN im) (lN fr9) k))) 0 0 (fun _ => False) := by
  refine enterR (by decide) (Nat.le_of_ble_eq_true rfl) ?_
  intro p e s m args below meth c ls hx hb hr hml hown hts hlk hP hE hV hS hl
  have hl : lv_has ls 3 [(0, .ref (pa 0)), (1, .int (nI k))] := hl
  refine lv_iload_n hx hb d_Pipe_fromRight_0 rfl (lv_at hl 1 rfl) ?_
  refine lv_iconst (v := 1) hx hb d_Pipe_fromRight_1 (by decide) ?_
  refine q_iadd (v := nI (k + 1)) hx hb d_Pipe_fromRight_2 (nI_add k 1) ?_
  refine lv_istore_n (lv' := [(2, .int (nI (k + 1))), (0, .ref (pa 0)), (1, .int (nI k))]) hx hb d_Pipe_fromRight_3 rfl hl (by decide) rfl (fun ls hl => ?_)
  refine lv_aload_n hx hb d_Pipe_fromRight_4 rfl (lv_at hl 1 rfl) ?_
  refine q_get 0 6 i_Pipe rfl hx hb hts hown hE hP rfl (by decide) x_186 rfl d_Pipe_fromRight_5 ?_
  refine lv_iload_n hx hb d_Pipe_fromRight_8 rfl (lv_at hl 0 rfl) ?_
  refine q_lald (k := k + 1) 1 hx hb hE hP rfl rfl (by omega) (by decide) d_Pipe_fromRight_9 ?_
  refine lv_aload_n hx hb d_Pipe_fromRight_10 rfl (lv_at hl 1 rfl) ?_
  refine q_get 0 1 i_Pipe rfl hx hb hts hown hE hP rfl (by decide) x_177 rfl d_Pipe_fromRight_11 ?_
  refine lv_i2l (v := lN im) hx hb d_Pipe_fromRight_14 (nI_l (by omega)) ?_
  refine lv_aload_n hx hb d_Pipe_fromRight_15 rfl (lv_at hl 1 rfl) ?_
  refine q_get 0 7 i_Pipe rfl hx hb hts hown hE hP rfl (by decide) x_187 rfl d_Pipe_fromRight_16 ?_
  refine lv_iload_n hx hb d_Pipe_fromRight_19 rfl (lv_at hl 0 rfl) ?_
  refine q_lald (k := k + 1) 2 hx hb hE hP rfl rfl (by omega) (by decide) d_Pipe_fromRight_20 ?_
  refine lv_lmul hx hb d_Pipe_fromRight_21 ?_
  refine lv_lsub hx hb d_Pipe_fromRight_22 ?_
  refine lv_aload_n hx hb d_Pipe_fromRight_23 rfl (lv_at hl 1 rfl) ?_
  refine lv_iload_n hx hb d_Pipe_fromRight_24 rfl (lv_at hl 0 rfl) ?_
  refine cRV (As := [.int (nI (k + 1))]) (rest := [.long ((hd (k + 1)) - ((lN im) * (fl (k + 1))))]) (q9 := 0) (ci := 2) K_Pipe_rubbed x_751 hx hb hml hown hts hE hV hS (c_Pipe_rubbed l D ct st pa la im fr9 lo9 op9 rs9 hd fl cv gt nh nf nc (k + 1) (by omega) (by omega)) hP rfl hP rfl rfl hl.1 rfl (Nat.le_of_ble_eq_true rfl) d_Pipe_fromRight_25 (Nat.le_of_ble_eq_true rfl) (Nat.le_of_ble_eq_true rfl) ⟨Nat.zero_le _, Nat.zero_le _⟩ ?_
  refine lv_ladd hx hb d_Pipe_fromRight_28 ?_
  exact rR_l hx hb hr hlk d_Pipe_fromRight_29 (rfl)
set_option maxHeartbeats 4000000 in
set_option maxRecDepth 100000 in
theorem c_Pipe_findReservoir (l : Launch) (D : va_G) (ct : Nat → ClassId) (st : Nat → Nat) (pa : Nat → Nat) (la : Nat) (im : Nat) (fr9 : Nat) (lo9 : Nat) (op9 : Nat) (rs9 : Nat) (hd : Nat → Int64) (fl : Nat → Int64) (cv : Nat → Int64) (gt : Nat → Int64) (nh : Nat → Int64) (nf : Nat → Int64) (nc : Nat → Int64) (hw : PW la im fr9 lo9 op9 rs9 hd fl) (sz : Nat) : Met l y_Pipe_findReservoir (wsy y_Pipe_findReservoir b_Pipe_findReservoir 1 (none)) (rmW 3 0 0 58) (PcW D ct st [.ref (pa 0)] [((pa 0), .inr (2, [.int (nI (la + 1)), .int (nI im), .int (nI fr9), .int (nI lo9), .int (nI op9), .int (nI rs9), .ref (pa 1), .ref (pa 2), .ref (pa 3), .ref (pa 4), .ref (pa 5), .ref (pa 6), .ref (pa 7)])), ((pa 1), .inl (ct 1, 21, .inr (.inl hd))), ((pa 2), .inl (ct 1, 21, .inr (.inl fl))), ((pa 3), .inl (ct 1, 21, .inr (.inl cv))), ((pa 4), .inl (ct 1, 21, .inr (.inl gt))), ((pa 5), .inl (ct 1, 21, .inr (.inl nh))), ((pa 6), .inl (ct 1, 21, .inr (.inl nf))), ((pa 7), .inl (ct 1, 21, .inr (.inl nc)))] sz) (QcW D [((pa 0), .inr (2, [.int (nI (la + 1)), .int (nI im), .int (nI fr9), .int (nI lo9), .int (nI op9), .int (nI rs9), .ref (pa 1), .ref (pa 2), .ref (pa 3), .ref (pa 4), .ref (pa 5), .ref (pa 6), .ref (pa 7)])), ((pa 1), .inl (ct 1, 21, .inr (.inl hd))), ((pa 2), .inl (ct 1, 21, .inr (.inl fl))), ((pa 3), .inl (ct 1, 21, .inr (.inl cv))), ((pa 4), .inl (ct 1, 21, .inr (.inl gt))), ((pa 5), .inl (ct 1, 21, .inr (.inl nh))), ((pa 6), .inl (ct 1, 21, .inr (.inl nf))), ((pa 7), .inl (ct 1, 21, .inr (.inl nc)))] sz (fun v W1 => ∃ (nh1 : Nat → Int64) (nf1 : Nat → Int64) (nc1 : Nat → Int64), v = none ∧ W1 = [((pa 0), .inr (2, [.int (nI (la + 1)), .int (nI im), .int (nI fr9), .int (nI lo9), .int (nI op9), .int (nI rs9), .ref (pa 1), .ref (pa 2), .ref (pa 3), .ref (pa 4), .ref (pa 5), .ref (pa 6), .ref (pa 7)])), ((pa 1), .inl (ct 1, 21, .inr (.inl hd))), ((pa 2), .inl (ct 1, 21, .inr (.inl fl))), ((pa 3), .inl (ct 1, 21, .inr (.inl cv))), ((pa 4), .inl (ct 1, 21, .inr (.inl gt))), ((pa 5), .inl (ct 1, 21, .inr (.inl nh1))), ((pa 6), .inl (ct 1, 21, .inr (.inl nf1))), ((pa 7), .inl (ct 1, 21, .inr (.inl nc1)))] ∧ (NodQ hd fl cv (lN im) (lN fr9) (lN lo9) (lN rs9) (lN op9) la 0 nh nf nc nh1 nf1 nc1))) 0 0 (va_A [((pa 0), .inr (2, [.int (nI (la + 1)), .int (nI im), .int (nI fr9), .int (nI lo9), .int (nI op9), .int (nI rs9), .ref (pa 1), .ref (pa 2), .ref (pa 3), .ref (pa 4), .ref (pa 5), .ref (pa 6), .ref (pa 7)])), ((pa 1), .inl (ct 1, 21, .inr (.inl hd))), ((pa 2), .inl (ct 1, 21, .inr (.inl fl))), ((pa 3), .inl (ct 1, 21, .inr (.inl cv))), ((pa 4), .inl (ct 1, 21, .inr (.inl gt))), ((pa 5), .inl (ct 1, 21, .inr (.inl nh))), ((pa 6), .inl (ct 1, 21, .inr (.inl nf))), ((pa 7), .inl (ct 1, 21, .inr (.inl nc)))] sz) := by
  refine enterW (by decide) (Nat.le_of_ble_eq_true rfl) ?_
  intro p e s m args below meth c ls A hx hb hr hml hown hts hlk hin hsz hAe hP hD hA hE hV hS hl
  have hl : lv_has ls 1 [(0, .ref (pa 0))] := hl
  have hla := hw.1
  have him := hw.2.1
  have hlo := hw.2.2.2.1
  have hop := hw.2.2.2.2.1
  have hrs := hw.2.2.2.2.2.1
  have hfr := hw.2.2.1
  refine lv_aload_n hx hb d_Pipe_findReservoir_0 rfl (lv_at hl 0 rfl) ?_
  refine q_get 0 10 i_Pipe rfl hx hb hts hown hE hP rfl (by decide) x_190 rfl d_Pipe_findReservoir_1 ?_
  refine lv_iconst (v := 0) hx hb d_Pipe_findReservoir_4 (by decide) ?_
  refine lv_aload_n hx hb d_Pipe_findReservoir_5 rfl (lv_at hl 0 rfl) ?_
  refine q_get 0 5 i_Pipe rfl hx hb hts hown hE hP rfl (by decide) x_185 rfl d_Pipe_findReservoir_6 ?_
  refine lv_i2l (v := lN rs9) hx hb d_Pipe_findReservoir_9 (nI_l (by omega)) ?_
  obtain ⟨nh_1, enh_1⟩ : ∃ g9 : Nat → Int64, g9 = vp_updL nh 0 (lN rs9) := ⟨_, rfl⟩
  refine q_last (k := 0) 5 (ws1 := [((pa 0), .inr (2, [.int (nI (la + 1)), .int (nI im), .int (nI fr9), .int (nI lo9), .int (nI op9), .int (nI rs9), .ref (pa 1), .ref (pa 2), .ref (pa 3), .ref (pa 4), .ref (pa 5), .ref (pa 6), .ref (pa 7)])), ((pa 1), .inl (ct 1, 21, .inr (.inl hd))), ((pa 2), .inl (ct 1, 21, .inr (.inl fl))), ((pa 3), .inl (ct 1, 21, .inr (.inl cv))), ((pa 4), .inl (ct 1, 21, .inr (.inl gt))), ((pa 5), .inl (ct 1, 21, .inr (.inl nh_1))), ((pa 6), .inl (ct 1, 21, .inr (.inl nf))), ((pa 7), .inl (ct 1, 21, .inr (.inl nc)))]) enh_1 hx hb hE hP hD hS rfl rfl (by omega) (by decide) rfl d_Pipe_findReservoir_10 (fun H locs hP hD hS => ?_)
  refine lv_aload_n hx hb d_Pipe_findReservoir_11 rfl (lv_at hl 0 rfl) ?_
  refine q_get 0 11 i_Pipe rfl hx hb hts hown hE hP rfl (by decide) x_191 rfl d_Pipe_findReservoir_12 ?_
  refine lv_iconst (v := 0) hx hb d_Pipe_findReservoir_15 (by decide) ?_
  refine lv_aload_n hx hb d_Pipe_findReservoir_16 rfl (lv_at hl 0 rfl) ?_
  refine q_get 0 5 i_Pipe rfl hx hb hts hown hE hP rfl (by decide) x_185 rfl d_Pipe_findReservoir_17 ?_
  refine lv_i2l (v := lN rs9) hx hb d_Pipe_findReservoir_20 (nI_l (by omega)) ?_
  refine lv_aload_n hx hb d_Pipe_findReservoir_21 rfl (lv_at hl 0 rfl) ?_
  refine lv_iconst (v := 0) hx hb d_Pipe_findReservoir_22 (by decide) ?_
  refine cRV (As := [.int 0]) (rest := [.long (lN rs9), .int 0, .ref (pa 6)]) (q9 := 0) (ci := 2) K_Pipe_fromRight x_747 hx hb hml hown hts hE hV hS (c_Pipe_fromRight l D ct st pa la im fr9 lo9 op9 rs9 hd fl cv gt nh_1 nf nc 0 (by omega) (by omega) (by omega)) hP rfl hP rfl rfl hl.1 rfl (Nat.le_of_ble_eq_true rfl) d_Pipe_findReservoir_23 (Nat.le_of_ble_eq_true rfl) (Nat.le_of_ble_eq_true rfl) ⟨Nat.le_of_ble_eq_true rfl, Nat.le_of_ble_eq_true rfl⟩ ?_
  refine lv_lsub hx hb d_Pipe_findReservoir_26 ?_
  refine lv_aload_n hx hb d_Pipe_findReservoir_27 rfl (lv_at hl 0 rfl) ?_
  refine q_get 0 1 i_Pipe rfl hx hb hts hown hE hP rfl (by decide) x_177 rfl d_Pipe_findReservoir_28 ?_
  refine lv_i2l (v := lN im) hx hb d_Pipe_findReservoir_31 (nI_l (by omega)) ?_
  refine lv_ldiv hx hb d_Pipe_findReservoir_32 (hw.im0) ?_
  obtain ⟨nf_1, enf_1⟩ : ∃ g9 : Nat → Int64, g9 = vp_updL nf 0 (((lN rs9) - (p_r hd fl (lN im) (lN fr9) 0)) / (lN im)) := ⟨_, rfl⟩
  refine q_last (k := 0) 6 (ws1 := [((pa 0), .inr (2, [.int (nI (la + 1)), .int (nI im), .int (nI fr9), .int (nI lo9), .int (nI op9), .int (nI rs9), .ref (pa 1), .ref (pa 2), .ref (pa 3), .ref (pa 4), .ref (pa 5), .ref (pa 6), .ref (pa 7)])), ((pa 1), .inl (ct 1, 21, .inr (.inl hd))), ((pa 2), .inl (ct 1, 21, .inr (.inl fl))), ((pa 3), .inl (ct 1, 21, .inr (.inl cv))), ((pa 4), .inl (ct 1, 21, .inr (.inl gt))), ((pa 5), .inl (ct 1, 21, .inr (.inl nh_1))), ((pa 6), .inl (ct 1, 21, .inr (.inl nf_1))), ((pa 7), .inl (ct 1, 21, .inr (.inl nc)))]) enf_1 hx hb hE hP hD hS rfl rfl (by omega) (by decide) rfl d_Pipe_findReservoir_33 (fun H locs hP hD hS => ?_)
  refine lv_aload_n hx hb d_Pipe_findReservoir_34 rfl (lv_at hl 0 rfl) ?_
  refine q_get 0 12 i_Pipe rfl hx hb hts hown hE hP rfl (by decide) x_192 rfl d_Pipe_findReservoir_35 ?_
  refine lv_iconst (v := 0) hx hb d_Pipe_findReservoir_38 (by decide) ?_
  refine lv_lconst (v := 0) hx hb d_Pipe_findReservoir_39 (by decide) ?_
  obtain ⟨nc_1, enc_1⟩ : ∃ g9 : Nat → Int64, g9 = vp_updL nc 0 0 := ⟨_, rfl⟩
  refine q_last (k := 0) 7 (ws1 := [((pa 0), .inr (2, [.int (nI (la + 1)), .int (nI im), .int (nI fr9), .int (nI lo9), .int (nI op9), .int (nI rs9), .ref (pa 1), .ref (pa 2), .ref (pa 3), .ref (pa 4), .ref (pa 5), .ref (pa 6), .ref (pa 7)])), ((pa 1), .inl (ct 1, 21, .inr (.inl hd))), ((pa 2), .inl (ct 1, 21, .inr (.inl fl))), ((pa 3), .inl (ct 1, 21, .inr (.inl cv))), ((pa 4), .inl (ct 1, 21, .inr (.inl gt))), ((pa 5), .inl (ct 1, 21, .inr (.inl nh_1))), ((pa 6), .inl (ct 1, 21, .inr (.inl nf_1))), ((pa 7), .inl (ct 1, 21, .inr (.inl nc_1)))]) enc_1 hx hb hE hP hD hS rfl rfl (by omega) (by decide) rfl d_Pipe_findReservoir_40 (fun H locs hP hD hS => ?_)
  exact rW_v hx hb hr hlk hAe hS hP hD (Nat.le_of_ble_eq_true rfl) (Nat.le_of_ble_eq_true rfl) d_Pipe_findReservoir_41 ⟨nh_1, nf_1, nc_1, rfl, rfl, nod_0 enh_1 enf_1 enc_1⟩
set_option maxHeartbeats 4000000 in
set_option maxRecDepth 100000 in
theorem c_Pipe_findCavity (l : Launch) (D : va_G) (ct : Nat → ClassId) (st : Nat → Nat) (pa : Nat → Nat) (la : Nat) (im : Nat) (fr9 : Nat) (lo9 : Nat) (op9 : Nat) (rs9 : Nat) (hd : Nat → Int64) (fl : Nat → Int64) (cv : Nat → Int64) (gt : Nat → Int64) (nh : Nat → Int64) (nf : Nat → Int64) (nc : Nat → Int64) (k : Nat) (c9 : Int64) (go9 : Int64) (hk : k < 21) (him : 1 ≤ im ∧ im ≤ 50) (sz : Nat) : Met l y_Pipe_findCavity (wsy y_Pipe_findCavity b_Pipe_findCavity 10 (none)) (rmW 0 0 0 0) (PcW D ct st [.ref (pa 0), .int (nI k), .long c9, .long go9] [((pa 0), .inr (2, [.int (nI (la + 1)), .int (nI im), .int (nI fr9), .int (nI lo9), .int (nI op9), .int (nI rs9), .ref (pa 1), .ref (pa 2), .ref (pa 3), .ref (pa 4), .ref (pa 5), .ref (pa 6), .ref (pa 7)])), ((pa 1), .inl (ct 1, 21, .inr (.inl hd))), ((pa 2), .inl (ct 1, 21, .inr (.inl fl))), ((pa 3), .inl (ct 1, 21, .inr (.inl cv))), ((pa 4), .inl (ct 1, 21, .inr (.inl gt))), ((pa 5), .inl (ct 1, 21, .inr (.inl nh))), ((pa 6), .inl (ct 1, 21, .inr (.inl nf))), ((pa 7), .inl (ct 1, 21, .inr (.inl nc)))] sz) (QcW D [((pa 0), .inr (2, [.int (nI (la + 1)), .int (nI im), .int (nI fr9), .int (nI lo9), .int (nI op9), .int (nI rs9), .ref (pa 1), .ref (pa 2), .ref (pa 3), .ref (pa 4), .ref (pa 5), .ref (pa 6), .ref (pa 7)])), ((pa 1), .inl (ct 1, 21, .inr (.inl hd))), ((pa 2), .inl (ct 1, 21, .inr (.inl fl))), ((pa 3), .inl (ct 1, 21, .inr (.inl cv))), ((pa 4), .inl (ct 1, 21, .inr (.inl gt))), ((pa 5), .inl (ct 1, 21, .inr (.inl nh))), ((pa 6), .inl (ct 1, 21, .inr (.inl nf))), ((pa 7), .inl (ct 1, 21, .inr (.inl nc)))] sz (fun v W1 => ∃ (nh1 : Nat → Int64) (nf1 : Nat → Int64) (nc1 : Nat → Int64), v = none ∧ W1 = [((pa 0), .inr (2, [.int (nI (la + 1)), .int (nI im), .int (nI fr9), .int (nI lo9), .int (nI op9), .int (nI rs9), .ref (pa 1), .ref (pa 2), .ref (pa 3), .ref (pa 4), .ref (pa 5), .ref (pa 6), .ref (pa 7)])), ((pa 1), .inl (ct 1, 21, .inr (.inl hd))), ((pa 2), .inl (ct 1, 21, .inr (.inl fl))), ((pa 3), .inl (ct 1, 21, .inr (.inl cv))), ((pa 4), .inl (ct 1, 21, .inr (.inl gt))), ((pa 5), .inl (ct 1, 21, .inr (.inl nh1))), ((pa 6), .inl (ct 1, 21, .inr (.inl nf1))), ((pa 7), .inl (ct 1, 21, .inr (.inl nc1)))] ∧ (CavQ (lN im) c9 go9 (cv k) k nh nf nc nh1 nf1 nc1))) 0 0 (va_A [((pa 0), .inr (2, [.int (nI (la + 1)), .int (nI im), .int (nI fr9), .int (nI lo9), .int (nI op9), .int (nI rs9), .ref (pa 1), .ref (pa 2), .ref (pa 3), .ref (pa 4), .ref (pa 5), .ref (pa 6), .ref (pa 7)])), ((pa 1), .inl (ct 1, 21, .inr (.inl hd))), ((pa 2), .inl (ct 1, 21, .inr (.inl fl))), ((pa 3), .inl (ct 1, 21, .inr (.inl cv))), ((pa 4), .inl (ct 1, 21, .inr (.inl gt))), ((pa 5), .inl (ct 1, 21, .inr (.inl nh))), ((pa 6), .inl (ct 1, 21, .inr (.inl nf))), ((pa 7), .inl (ct 1, 21, .inr (.inl nc)))] sz) := by
  refine enterW (by decide) (Nat.le_of_ble_eq_true rfl) ?_
  intro p e s m args below meth c ls A hx hb hr hml hown hts hlk hin hsz hAe hP hD hA hE hV hS hl
  have hl : lv_has ls 10 [(0, .ref (pa 0)), (1, .int (nI k)), (2, .long c9), (4, .long go9)] := hl
  refine lv_aload_n hx hb d_Pipe_findCavity_0 rfl (lv_at hl 0 rfl) ?_
  refine q_get 0 12 i_Pipe rfl hx hb hts hown hE hP rfl (by decide) x_192 rfl d_Pipe_findCavity_1 ?_
  refine lv_iload_n hx hb d_Pipe_findCavity_4 rfl (lv_at hl 1 rfl) ?_
  refine lv_lconst (v := 0) hx hb d_Pipe_findCavity_5 (by decide) ?_
  obtain ⟨nc_1, enc_1⟩ : ∃ g9 : Nat → Int64, g9 = vp_updL nc k 0 := ⟨_, rfl⟩
  refine q_last (k := k) 7 (ws1 := [((pa 0), .inr (2, [.int (nI (la + 1)), .int (nI im), .int (nI fr9), .int (nI lo9), .int (nI op9), .int (nI rs9), .ref (pa 1), .ref (pa 2), .ref (pa 3), .ref (pa 4), .ref (pa 5), .ref (pa 6), .ref (pa 7)])), ((pa 1), .inl (ct 1, 21, .inr (.inl hd))), ((pa 2), .inl (ct 1, 21, .inr (.inl fl))), ((pa 3), .inl (ct 1, 21, .inr (.inl cv))), ((pa 4), .inl (ct 1, 21, .inr (.inl gt))), ((pa 5), .inl (ct 1, 21, .inr (.inl nh))), ((pa 6), .inl (ct 1, 21, .inr (.inl nf))), ((pa 7), .inl (ct 1, 21, .inr (.inl nc_1)))]) enc_1 hx hb hE hP hD hS rfl rfl (by omega) (by decide) rfl d_Pipe_findCavity_6 (fun H locs hP hD hS => ?_)
  refine lv_aload_n hx hb d_Pipe_findCavity_7 rfl (lv_at hl 0 rfl) ?_
  refine q_get 0 8 i_Pipe rfl hx hb hts hown hE hP rfl (by decide) x_188 rfl d_Pipe_findCavity_8 ?_
  refine lv_iload_n hx hb d_Pipe_findCavity_11 rfl (lv_at hl 1 rfl) ?_
  refine q_lald (k := k) 3 hx hb hE hP rfl rfl (by omega) (by decide) d_Pipe_findCavity_12 ?_
  refine lv_lconst (v := 0) hx hb d_Pipe_findCavity_13 (by decide) ?_
  refine W.lcmp hx hb d_Pipe_findCavity_14 ?_
  refine q_cmp_gt (tgt := 32) hx hb d_Pipe_findCavity_15 (by decide) (fun h_15 => ?_) (fun h_15 => ?_)
  · refine lv_lload_n hx hb d_Pipe_findCavity_32 rfl (lv_at hl 2 rfl) ?_
    refine lv_ldc2 (v := (-100)) hx hb hown (hts _ (List.mem_cons_of_mem _ x_767)) d_Pipe_findCavity_33 ?_
    refine lv_lsub hx hb d_Pipe_findCavity_36 ?_
    refine q_topl (v := c9 + 100) (by grind) ?_
    refine lv_aload_n hx hb d_Pipe_findCavity_37 rfl (lv_at hl 0 rfl) ?_
    refine q_get 0 1 i_Pipe rfl hx hb hts hown hE hP rfl (by decide) x_177 rfl d_Pipe_findCavity_38 ?_
    refine lv_i2l (v := lN im) hx hb d_Pipe_findCavity_41 (nI_l (by omega)) ?_
    refine lv_ldiv hx hb d_Pipe_findCavity_42 (lNp him.1 (by omega)) ?_
    refine lv_lstore (lv' := [(6, .long ((c9 + 100) / (lN im))), (0, .ref (pa 0)), (1, .int (nI k)), (2, .long c9), (4, .long go9)]) hx hb d_Pipe_findCavity_43 hl (by decide) rfl (fun ls hl => ?_)
    refine lv_aload_n hx hb d_Pipe_findCavity_45 rfl (lv_at hl 1 rfl) ?_
    refine q_get 0 8 i_Pipe rfl hx hb hts hown hE hP rfl (by decide) x_188 rfl d_Pipe_findCavity_46 ?_
    refine lv_iload_n hx hb d_Pipe_findCavity_49 rfl (lv_at hl 2 rfl) ?_
    refine q_lald (k := k) 3 hx hb hE hP rfl rfl (by omega) (by decide) d_Pipe_findCavity_50 ?_
    refine lv_lload hx hb d_Pipe_findCavity_51 (lv_at hl 4 rfl) ?_
    refine lv_ladd hx hb d_Pipe_findCavity_53 ?_
    refine lv_lload hx hb d_Pipe_findCavity_54 (lv_at hl 0 rfl) ?_
    refine lv_lsub hx hb d_Pipe_findCavity_56 ?_
    refine lv_lstore (lv' := [(8, .long (((cv k) + go9) - ((c9 + 100) / (lN im)))), (6, .long ((c9 + 100) / (lN im))), (0, .ref (pa 0)), (1, .int (nI k)), (2, .long c9), (4, .long go9)]) hx hb d_Pipe_findCavity_57 hl (by decide) rfl (fun ls hl => ?_)
    refine lv_lload hx hb d_Pipe_findCavity_59 (lv_at hl 0 rfl) ?_
    refine lv_lconst (v := 0) hx hb d_Pipe_findCavity_61 (by decide) ?_
    refine W.lcmp hx hb d_Pipe_findCavity_62 ?_
    refine q_cmp_le (tgt := 91) hx hb d_Pipe_findCavity_63 (by decide) (fun h_63 => ?_) (fun h_63 => ?_)
    · exact rW_v hx hb hr hlk hAe hS hP hD (Nat.le_of_ble_eq_true rfl) (Nat.le_of_ble_eq_true rfl) d_Pipe_findCavity_91 ⟨nh, nf, nc_1, rfl, rfl, by first | exact cav_low (Or.inl h_15) h_63 enc_1 | exact cav_low (Or.inr h_28) h_63 enc_1⟩
    · refine lv_aload_n hx hb d_Pipe_findCavity_66 rfl (lv_at hl 2 rfl) ?_
      refine q_get 0 12 i_Pipe rfl hx hb hts hown hE hP rfl (by decide) x_192 rfl d_Pipe_findCavity_67 ?_
      refine lv_iload_n hx hb d_Pipe_findCavity_70 rfl (lv_at hl 3 rfl) ?_
      refine lv_lload hx hb d_Pipe_findCavity_71 (lv_at hl 0 rfl) ?_
      obtain ⟨nc_2, enc_2⟩ : ∃ g9 : Nat → Int64, g9 = vp_updL nc_1 k (((cv k) + go9) - ((c9 + 100) / (lN im))) := ⟨_, rfl⟩
      refine q_last (k := k) 7 (ws1 := [((pa 0), .inr (2, [.int (nI (la + 1)), .int (nI im), .int (nI fr9), .int (nI lo9), .int (nI op9), .int (nI rs9), .ref (pa 1), .ref (pa 2), .ref (pa 3), .ref (pa 4), .ref (pa 5), .ref (pa 6), .ref (pa 7)])), ((pa 1), .inl (ct 1, 21, .inr (.inl hd))), ((pa 2), .inl (ct 1, 21, .inr (.inl fl))), ((pa 3), .inl (ct 1, 21, .inr (.inl cv))), ((pa 4), .inl (ct 1, 21, .inr (.inl gt))), ((pa 5), .inl (ct 1, 21, .inr (.inl nh))), ((pa 6), .inl (ct 1, 21, .inr (.inl nf))), ((pa 7), .inl (ct 1, 21, .inr (.inl nc_2)))]) enc_2 hx hb hE hP hD hS rfl rfl (by omega) (by decide) rfl d_Pipe_findCavity_73 (fun H locs hP hD hS => ?_)
      refine lv_aload_n hx hb d_Pipe_findCavity_74 rfl (lv_at hl 2 rfl) ?_
      refine q_get 0 10 i_Pipe rfl hx hb hts hown hE hP rfl (by decide) x_190 rfl d_Pipe_findCavity_75 ?_
      refine lv_iload_n hx hb d_Pipe_findCavity_78 rfl (lv_at hl 3 rfl) ?_
      refine lv_ldc2 (v := (-100)) hx hb hown (hts _ (List.mem_cons_of_mem _ x_767)) d_Pipe_findCavity_79 ?_
      obtain ⟨nh_1, enh_1⟩ : ∃ g9 : Nat → Int64, g9 = vp_updL nh k (-100) := ⟨_, rfl⟩
      refine q_last (k := k) 5 (ws1 := [((pa 0), .inr (2, [.int (nI (la + 1)), .int (nI im), .int (nI fr9), .int (nI lo9), .int (nI op9), .int (nI rs9), .ref (pa 1), .ref (pa 2), .ref (pa 3), .ref (pa 4), .ref (pa 5), .ref (pa 6), .ref (pa 7)])), ((pa 1), .inl (ct 1, 21, .inr (.inl hd))), ((pa 2), .inl (ct 1, 21, .inr (.inl fl))), ((pa 3), .inl (ct 1, 21, .inr (.inl cv))), ((pa 4), .inl (ct 1, 21, .inr (.inl gt))), ((pa 5), .inl (ct 1, 21, .inr (.inl nh_1))), ((pa 6), .inl (ct 1, 21, .inr (.inl nf))), ((pa 7), .inl (ct 1, 21, .inr (.inl nc_2)))]) enh_1 hx hb hE hP hD hS rfl rfl (by omega) (by decide) rfl d_Pipe_findCavity_82 (fun H locs hP hD hS => ?_)
      refine lv_aload_n hx hb d_Pipe_findCavity_83 rfl (lv_at hl 2 rfl) ?_
      refine q_get 0 11 i_Pipe rfl hx hb hts hown hE hP rfl (by decide) x_191 rfl d_Pipe_findCavity_84 ?_
      refine lv_iload_n hx hb d_Pipe_findCavity_87 rfl (lv_at hl 3 rfl) ?_
      refine lv_lload hx hb d_Pipe_findCavity_88 (lv_at hl 5 rfl) ?_
      obtain ⟨nf_1, enf_1⟩ : ∃ g9 : Nat → Int64, g9 = vp_updL nf k go9 := ⟨_, rfl⟩
      refine q_last (k := k) 6 (ws1 := [((pa 0), .inr (2, [.int (nI (la + 1)), .int (nI im), .int (nI fr9), .int (nI lo9), .int (nI op9), .int (nI rs9), .ref (pa 1), .ref (pa 2), .ref (pa 3), .ref (pa 4), .ref (pa 5), .ref (pa 6), .ref (pa 7)])), ((pa 1), .inl (ct 1, 21, .inr (.inl hd))), ((pa 2), .inl (ct 1, 21, .inr (.inl fl))), ((pa 3), .inl (ct 1, 21, .inr (.inl cv))), ((pa 4), .inl (ct 1, 21, .inr (.inl gt))), ((pa 5), .inl (ct 1, 21, .inr (.inl nh_1))), ((pa 6), .inl (ct 1, 21, .inr (.inl nf_1))), ((pa 7), .inl (ct 1, 21, .inr (.inl nc_2)))]) enf_1 hx hb hE hP hD hS rfl rfl (by omega) (by decide) rfl d_Pipe_findCavity_90 (fun H locs hP hD hS => ?_)
      exact rW_v hx hb hr hlk hAe hS hP hD (Nat.le_of_ble_eq_true rfl) (Nat.le_of_ble_eq_true rfl) d_Pipe_findCavity_91 ⟨nh_1, nf_1, nc_2, rfl, rfl, by first | exact cav_has (Or.inl h_15) h_63 enc_1 enc_2 enh_1 enf_1 | exact cav_has (Or.inr h_28) h_63 enc_1 enc_2 enh_1 enf_1⟩
  · refine lv_aload_n hx hb d_Pipe_findCavity_18 rfl (lv_at hl 0 rfl) ?_
    refine q_get 0 10 i_Pipe rfl hx hb hts hown hE hP rfl (by decide) x_190 rfl d_Pipe_findCavity_19 ?_
    refine lv_iload_n hx hb d_Pipe_findCavity_22 rfl (lv_at hl 1 rfl) ?_
    refine q_lald (k := k) 5 hx hb hE hP rfl rfl (by omega) (by decide) d_Pipe_findCavity_23 ?_
    refine lv_ldc2 (v := (-100)) hx hb hown (hts _ (List.mem_cons_of_mem _ x_767)) d_Pipe_findCavity_24 ?_
    refine W.lcmp hx hb d_Pipe_findCavity_27 ?_
    refine q_cmp_lt (tgt := 32) hx hb d_Pipe_findCavity_28 (by decide) (fun h_28 => ?_) (fun h_28 => ?_)
    · refine lv_lload_n hx hb d_Pipe_findCavity_32 rfl (lv_at hl 2 rfl) ?_
      refine lv_ldc2 (v := (-100)) hx hb hown (hts _ (List.mem_cons_of_mem _ x_767)) d_Pipe_findCavity_33 ?_
      refine lv_lsub hx hb d_Pipe_findCavity_36 ?_
      refine q_topl (v := c9 + 100) (by grind) ?_
      refine lv_aload_n hx hb d_Pipe_findCavity_37 rfl (lv_at hl 0 rfl) ?_
      refine q_get 0 1 i_Pipe rfl hx hb hts hown hE hP rfl (by decide) x_177 rfl d_Pipe_findCavity_38 ?_
      refine lv_i2l (v := lN im) hx hb d_Pipe_findCavity_41 (nI_l (by omega)) ?_
      refine lv_ldiv hx hb d_Pipe_findCavity_42 (lNp him.1 (by omega)) ?_
      refine lv_lstore (lv' := [(6, .long ((c9 + 100) / (lN im))), (0, .ref (pa 0)), (1, .int (nI k)), (2, .long c9), (4, .long go9)]) hx hb d_Pipe_findCavity_43 hl (by decide) rfl (fun ls hl => ?_)
      refine lv_aload_n hx hb d_Pipe_findCavity_45 rfl (lv_at hl 1 rfl) ?_
      refine q_get 0 8 i_Pipe rfl hx hb hts hown hE hP rfl (by decide) x_188 rfl d_Pipe_findCavity_46 ?_
      refine lv_iload_n hx hb d_Pipe_findCavity_49 rfl (lv_at hl 2 rfl) ?_
      refine q_lald (k := k) 3 hx hb hE hP rfl rfl (by omega) (by decide) d_Pipe_findCavity_50 ?_
      refine lv_lload hx hb d_Pipe_findCavity_51 (lv_at hl 4 rfl) ?_
      refine lv_ladd hx hb d_Pipe_findCavity_53 ?_
      refine lv_lload hx hb d_Pipe_findCavity_54 (lv_at hl 0 rfl) ?_
      refine lv_lsub hx hb d_Pipe_findCavity_56 ?_
      refine lv_lstore (lv' := [(8, .long (((cv k) + go9) - ((c9 + 100) / (lN im)))), (6, .long ((c9 + 100) / (lN im))), (0, .ref (pa 0)), (1, .int (nI k)), (2, .long c9), (4, .long go9)]) hx hb d_Pipe_findCavity_57 hl (by decide) rfl (fun ls hl => ?_)
      refine lv_lload hx hb d_Pipe_findCavity_59 (lv_at hl 0 rfl) ?_
      refine lv_lconst (v := 0) hx hb d_Pipe_findCavity_61 (by decide) ?_
      refine W.lcmp hx hb d_Pipe_findCavity_62 ?_
      refine q_cmp_le (tgt := 91) hx hb d_Pipe_findCavity_63 (by decide) (fun h_63 => ?_) (fun h_63 => ?_)
      · exact rW_v hx hb hr hlk hAe hS hP hD (Nat.le_of_ble_eq_true rfl) (Nat.le_of_ble_eq_true rfl) d_Pipe_findCavity_91 ⟨nh, nf, nc_1, rfl, rfl, by first | exact cav_low (Or.inl h_15) h_63 enc_1 | exact cav_low (Or.inr h_28) h_63 enc_1⟩
      · refine lv_aload_n hx hb d_Pipe_findCavity_66 rfl (lv_at hl 2 rfl) ?_
        refine q_get 0 12 i_Pipe rfl hx hb hts hown hE hP rfl (by decide) x_192 rfl d_Pipe_findCavity_67 ?_
        refine lv_iload_n hx hb d_Pipe_findCavity_70 rfl (lv_at hl 3 rfl) ?_
        refine lv_lload hx hb d_Pipe_findCavity_71 (lv_at hl 0 rfl) ?_
        obtain ⟨nc_3, enc_3⟩ : ∃ g9 : Nat → Int64, g9 = vp_updL nc_1 k (((cv k) + go9) - ((c9 + 100) / (lN im))) := ⟨_, rfl⟩
        refine q_last (k := k) 7 (ws1 := [((pa 0), .inr (2, [.int (nI (la + 1)), .int (nI im), .int (nI fr9), .int (nI lo9), .int (nI op9), .int (nI rs9), .ref (pa 1), .ref (pa 2), .ref (pa 3), .ref (pa 4), .ref (pa 5), .ref (pa 6), .ref (pa 7)])), ((pa 1), .inl (ct 1, 21, .inr (.inl hd))), ((pa 2), .inl (ct 1, 21, .inr (.inl fl))), ((pa 3), .inl (ct 1, 21, .inr (.inl cv))), ((pa 4), .inl (ct 1, 21, .inr (.inl gt))), ((pa 5), .inl (ct 1, 21, .inr (.inl nh))), ((pa 6), .inl (ct 1, 21, .inr (.inl nf))), ((pa 7), .inl (ct 1, 21, .inr (.inl nc_3)))]) enc_3 hx hb hE hP hD hS rfl rfl (by omega) (by decide) rfl d_Pipe_findCavity_73 (fun H locs hP hD hS => ?_)
        refine lv_aload_n hx hb d_Pipe_findCavity_74 rfl (lv_at hl 2 rfl) ?_
        refine q_get 0 10 i_Pipe rfl hx hb hts hown hE hP rfl (by decide) x_190 rfl d_Pipe_findCavity_75 ?_
        refine lv_iload_n hx hb d_Pipe_findCavity_78 rfl (lv_at hl 3 rfl) ?_
        refine lv_ldc2 (v := (-100)) hx hb hown (hts _ (List.mem_cons_of_mem _ x_767)) d_Pipe_findCavity_79 ?_
        obtain ⟨nh_2, enh_2⟩ : ∃ g9 : Nat → Int64, g9 = vp_updL nh k (-100) := ⟨_, rfl⟩
        refine q_last (k := k) 5 (ws1 := [((pa 0), .inr (2, [.int (nI (la + 1)), .int (nI im), .int (nI fr9), .int (nI lo9), .int (nI op9), .int (nI rs9), .ref (pa 1), .ref (pa 2), .ref (pa 3), .ref (pa 4), .ref (pa 5), .ref (pa 6), .ref (pa 7)])), ((pa 1), .inl (ct 1, 21, .inr (.inl hd))), ((pa 2), .inl (ct 1, 21, .inr (.inl fl))), ((pa 3), .inl (ct 1, 21, .inr (.inl cv))), ((pa 4), .inl (ct 1, 21, .inr (.inl gt))), ((pa 5), .inl (ct 1, 21, .inr (.inl nh_2))), ((pa 6), .inl (ct 1, 21, .inr (.inl nf))), ((pa 7), .inl (ct 1, 21, .inr (.inl nc_3)))]) enh_2 hx hb hE hP hD hS rfl rfl (by omega) (by decide) rfl d_Pipe_findCavity_82 (fun H locs hP hD hS => ?_)
        refine lv_aload_n hx hb d_Pipe_findCavity_83 rfl (lv_at hl 2 rfl) ?_
        refine q_get 0 11 i_Pipe rfl hx hb hts hown hE hP rfl (by decide) x_191 rfl d_Pipe_findCavity_84 ?_
        refine lv_iload_n hx hb d_Pipe_findCavity_87 rfl (lv_at hl 3 rfl) ?_
        refine lv_lload hx hb d_Pipe_findCavity_88 (lv_at hl 5 rfl) ?_
        obtain ⟨nf_2, enf_2⟩ : ∃ g9 : Nat → Int64, g9 = vp_updL nf k go9 := ⟨_, rfl⟩
        refine q_last (k := k) 6 (ws1 := [((pa 0), .inr (2, [.int (nI (la + 1)), .int (nI im), .int (nI fr9), .int (nI lo9), .int (nI op9), .int (nI rs9), .ref (pa 1), .ref (pa 2), .ref (pa 3), .ref (pa 4), .ref (pa 5), .ref (pa 6), .ref (pa 7)])), ((pa 1), .inl (ct 1, 21, .inr (.inl hd))), ((pa 2), .inl (ct 1, 21, .inr (.inl fl))), ((pa 3), .inl (ct 1, 21, .inr (.inl cv))), ((pa 4), .inl (ct 1, 21, .inr (.inl gt))), ((pa 5), .inl (ct 1, 21, .inr (.inl nh_2))), ((pa 6), .inl (ct 1, 21, .inr (.inl nf_2))), ((pa 7), .inl (ct 1, 21, .inr (.inl nc_3)))]) enf_2 hx hb hE hP hD hS rfl rfl (by omega) (by decide) rfl d_Pipe_findCavity_90 (fun H locs hP hD hS => ?_)
        exact rW_v hx hb hr hlk hAe hS hP hD (Nat.le_of_ble_eq_true rfl) (Nat.le_of_ble_eq_true rfl) d_Pipe_findCavity_91 ⟨nh_2, nf_2, nc_3, rfl, rfl, by first | exact cav_has (Or.inl h_15) h_63 enc_1 enc_3 enh_2 enf_2 | exact cav_has (Or.inr h_28) h_63 enc_1 enc_3 enh_2 enf_2⟩
    · exact rW_v hx hb hr hlk hAe hS hP hD (Nat.le_of_ble_eq_true rfl) (Nat.le_of_ble_eq_true rfl) d_Pipe_findCavity_31 ⟨nh, nf, nc_1, rfl, rfl, cav_none (Int64.not_lt.mpr (Int64.not_lt.mp h_15)) h_28 enc_1⟩
set_option maxHeartbeats 4000000 in
set_option maxRecDepth 100000 in
theorem c_Pipe_findBetween (l : Launch) (D : va_G) (ct : Nat → ClassId) (st : Nat → Nat) (pa : Nat → Nat) (la : Nat) (im : Nat) (fr9 : Nat) (lo9 : Nat) (op9 : Nat) (rs9 : Nat) (hd : Nat → Int64) (fl : Nat → Int64) (cv : Nat → Int64) (gt : Nat → Int64) (nh : Nat → Int64) (nf : Nat → Int64) (nc : Nat → Int64) (k : Nat) (hw : PW la im fr9 lo9 op9 rs9 hd fl) (hk : 1 ≤ k ∧ k < la) (sz : Nat) : Met l y_Pipe_findBetween (wsy y_Pipe_findBetween b_Pipe_findBetween 6 (none)) (rmW 3 0 0 58) (PcW D ct st [.ref (pa 0), .int (nI k)] [((pa 0), .inr (2, [.int (nI (la + 1)), .int (nI im), .int (nI fr9), .int (nI lo9), .int (nI op9), .int (nI rs9), .ref (pa 1), .ref (pa 2), .ref (pa 3), .ref (pa 4), .ref (pa 5), .ref (pa 6), .ref (pa 7)])), ((pa 1), .inl (ct 1, 21, .inr (.inl hd))), ((pa 2), .inl (ct 1, 21, .inr (.inl fl))), ((pa 3), .inl (ct 1, 21, .inr (.inl cv))), ((pa 4), .inl (ct 1, 21, .inr (.inl gt))), ((pa 5), .inl (ct 1, 21, .inr (.inl nh))), ((pa 6), .inl (ct 1, 21, .inr (.inl nf))), ((pa 7), .inl (ct 1, 21, .inr (.inl nc)))] sz) (QcW D [((pa 0), .inr (2, [.int (nI (la + 1)), .int (nI im), .int (nI fr9), .int (nI lo9), .int (nI op9), .int (nI rs9), .ref (pa 1), .ref (pa 2), .ref (pa 3), .ref (pa 4), .ref (pa 5), .ref (pa 6), .ref (pa 7)])), ((pa 1), .inl (ct 1, 21, .inr (.inl hd))), ((pa 2), .inl (ct 1, 21, .inr (.inl fl))), ((pa 3), .inl (ct 1, 21, .inr (.inl cv))), ((pa 4), .inl (ct 1, 21, .inr (.inl gt))), ((pa 5), .inl (ct 1, 21, .inr (.inl nh))), ((pa 6), .inl (ct 1, 21, .inr (.inl nf))), ((pa 7), .inl (ct 1, 21, .inr (.inl nc)))] sz (fun v W1 => ∃ (nh1 : Nat → Int64) (nf1 : Nat → Int64) (nc1 : Nat → Int64), v = none ∧ W1 = [((pa 0), .inr (2, [.int (nI (la + 1)), .int (nI im), .int (nI fr9), .int (nI lo9), .int (nI op9), .int (nI rs9), .ref (pa 1), .ref (pa 2), .ref (pa 3), .ref (pa 4), .ref (pa 5), .ref (pa 6), .ref (pa 7)])), ((pa 1), .inl (ct 1, 21, .inr (.inl hd))), ((pa 2), .inl (ct 1, 21, .inr (.inl fl))), ((pa 3), .inl (ct 1, 21, .inr (.inl cv))), ((pa 4), .inl (ct 1, 21, .inr (.inl gt))), ((pa 5), .inl (ct 1, 21, .inr (.inl nh1))), ((pa 6), .inl (ct 1, 21, .inr (.inl nf1))), ((pa 7), .inl (ct 1, 21, .inr (.inl nc1)))] ∧ (NodQ hd fl cv (lN im) (lN fr9) (lN lo9) (lN rs9) (lN op9) la k nh nf nc nh1 nf1 nc1))) 0 0 (va_A [((pa 0), .inr (2, [.int (nI (la + 1)), .int (nI im), .int (nI fr9), .int (nI lo9), .int (nI op9), .int (nI rs9), .ref (pa 1), .ref (pa 2), .ref (pa 3), .ref (pa 4), .ref (pa 5), .ref (pa 6), .ref (pa 7)])), ((pa 1), .inl (ct 1, 21, .inr (.inl hd))), ((pa 2), .inl (ct 1, 21, .inr (.inl fl))), ((pa 3), .inl (ct 1, 21, .inr (.inl cv))), ((pa 4), .inl (ct 1, 21, .inr (.inl gt))), ((pa 5), .inl (ct 1, 21, .inr (.inl nh))), ((pa 6), .inl (ct 1, 21, .inr (.inl nf))), ((pa 7), .inl (ct 1, 21, .inr (.inl nc)))] sz) := by
  refine enterW (by decide) (Nat.le_of_ble_eq_true rfl) ?_
  intro p e s m args below meth c ls A hx hb hr hml hown hts hlk hin hsz hAe hP hD hA hE hV hS hl
  have hl : lv_has ls 6 [(0, .ref (pa 0)), (1, .int (nI k))] := hl
  have hla := hw.1
  have him := hw.2.1
  have hlo := hw.2.2.2.1
  have hop := hw.2.2.2.2.1
  have hrs := hw.2.2.2.2.2.1
  have hfr := hw.2.2.1
  refine lv_aload_n hx hb d_Pipe_findBetween_0 rfl (lv_at hl 0 rfl) ?_
  refine lv_iload_n hx hb d_Pipe_findBetween_1 rfl (lv_at hl 1 rfl) ?_
  refine cRV (As := [.int (nI k)]) (rest := []) (q9 := 0) (ci := 2) K_Pipe_fromLeft x_761 hx hb hml hown hts hE hV hS (c_Pipe_fromLeft l D ct st pa la im fr9 lo9 op9 rs9 hd fl cv gt nh nf nc k (by omega) (by omega) (by omega)) hP rfl hP rfl rfl hl.1 rfl (Nat.le_of_ble_eq_true rfl) d_Pipe_findBetween_2 (Nat.le_of_ble_eq_true rfl) (Nat.le_of_ble_eq_true rfl) ⟨Nat.le_of_ble_eq_true rfl, Nat.le_of_ble_eq_true rfl⟩ ?_
  refine lv_lstore_n (lv' := [(2, .long (p_l hd fl (lN im) (lN fr9) k)), (0, .ref (pa 0)), (1, .int (nI k))]) hx hb d_Pipe_findBetween_5 rfl hl (by decide) rfl (fun ls hl => ?_)
  refine lv_aload_n hx hb d_Pipe_findBetween_6 rfl (lv_at hl 1 rfl) ?_
  refine lv_iload_n hx hb d_Pipe_findBetween_7 rfl (lv_at hl 2 rfl) ?_
  refine cRV (As := [.int (nI k)]) (rest := []) (q9 := 0) (ci := 2) K_Pipe_fromRight x_747 hx hb hml hown hts hE hV hS (c_Pipe_fromRight l D ct st pa la im fr9 lo9 op9 rs9 hd fl cv gt nh nf nc k (by omega) (by omega) (by omega)) hP rfl hP rfl rfl hl.1 rfl (Nat.le_of_ble_eq_true rfl) d_Pipe_findBetween_8 (Nat.le_of_ble_eq_true rfl) (Nat.le_of_ble_eq_true rfl) ⟨Nat.le_of_ble_eq_true rfl, Nat.le_of_ble_eq_true rfl⟩ ?_
  refine lv_lstore (lv' := [(4, .long (p_r hd fl (lN im) (lN fr9) k)), (2, .long (p_l hd fl (lN im) (lN fr9) k)), (0, .ref (pa 0)), (1, .int (nI k))]) hx hb d_Pipe_findBetween_11 hl (by decide) rfl (fun ls hl => ?_)
  refine lv_aload_n hx hb d_Pipe_findBetween_13 rfl (lv_at hl 2 rfl) ?_
  refine q_get 0 10 i_Pipe rfl hx hb hts hown hE hP rfl (by decide) x_190 rfl d_Pipe_findBetween_14 ?_
  refine lv_iload_n hx hb d_Pipe_findBetween_17 rfl (lv_at hl 3 rfl) ?_
  refine lv_lload_n hx hb d_Pipe_findBetween_18 rfl (lv_at hl 1 rfl) ?_
  refine lv_lload hx hb d_Pipe_findBetween_19 (lv_at hl 0 rfl) ?_
  refine lv_ladd hx hb d_Pipe_findBetween_21 ?_
  refine lv_ldc2 (v := 2) hx hb hown (hts _ (List.mem_cons_of_mem _ x_765)) d_Pipe_findBetween_22 ?_
  refine cRS (As := [.long ((p_l hd fl (lN im) (lN fr9) k) + (p_r hd fl (lN im) (lN fr9) k)), .long 2]) (rest := [.int (nI k), .ref (pa 5)]) K_Math_floorDiv x_766 hx hb hml hown hts hE hV hS (c_Math_floorDiv l D ct st ((p_l hd fl (lN im) (lN fr9) k) + (p_r hd fl (lN im) (lN fr9) k)) 2 (by decide)) (fun k q h => by simp at h) rfl hl.1 rfl (Nat.le_of_ble_eq_true rfl) d_Pipe_findBetween_25 (Nat.le_of_ble_eq_true rfl) (Nat.le_of_ble_eq_true rfl) ⟨Nat.le_of_ble_eq_true rfl, Nat.le_of_ble_eq_true rfl⟩ ?_
  obtain ⟨nh_1, enh_1⟩ : ∃ g9 : Nat → Int64, g9 = vp_updL nh k (fd ((p_l hd fl (lN im) (lN fr9) k) + (p_r hd fl (lN im) (lN fr9) k)) 2) := ⟨_, rfl⟩
  refine q_last (k := k) 5 (ws1 := [((pa 0), .inr (2, [.int (nI (la + 1)), .int (nI im), .int (nI fr9), .int (nI lo9), .int (nI op9), .int (nI rs9), .ref (pa 1), .ref (pa 2), .ref (pa 3), .ref (pa 4), .ref (pa 5), .ref (pa 6), .ref (pa 7)])), ((pa 1), .inl (ct 1, 21, .inr (.inl hd))), ((pa 2), .inl (ct 1, 21, .inr (.inl fl))), ((pa 3), .inl (ct 1, 21, .inr (.inl cv))), ((pa 4), .inl (ct 1, 21, .inr (.inl gt))), ((pa 5), .inl (ct 1, 21, .inr (.inl nh_1))), ((pa 6), .inl (ct 1, 21, .inr (.inl nf))), ((pa 7), .inl (ct 1, 21, .inr (.inl nc)))]) enh_1 hx hb hE hP hD hS rfl rfl (by omega) (by decide) rfl d_Pipe_findBetween_28 (fun H locs hP hD hS => ?_)
  refine lv_aload_n hx hb d_Pipe_findBetween_29 rfl (lv_at hl 2 rfl) ?_
  refine q_get 0 11 i_Pipe rfl hx hb hts hown hE hP rfl (by decide) x_191 rfl d_Pipe_findBetween_30 ?_
  refine lv_iload_n hx hb d_Pipe_findBetween_33 rfl (lv_at hl 3 rfl) ?_
  refine lv_lload_n hx hb d_Pipe_findBetween_34 rfl (lv_at hl 1 rfl) ?_
  refine lv_lload hx hb d_Pipe_findBetween_35 (lv_at hl 0 rfl) ?_
  refine lv_lsub hx hb d_Pipe_findBetween_37 ?_
  refine lv_iconst (v := 2) hx hb d_Pipe_findBetween_38 (by decide) ?_
  refine lv_aload_n hx hb d_Pipe_findBetween_39 rfl (lv_at hl 2 rfl) ?_
  refine q_get 0 1 i_Pipe rfl hx hb hts hown hE hP rfl (by decide) x_177 rfl d_Pipe_findBetween_40 ?_
  refine q_imul (v := nI (2 * im)) hx hb d_Pipe_findBetween_43 (pk_mul 2 im) ?_
  refine lv_i2l (v := lN (2 * im)) hx hb d_Pipe_findBetween_44 (nI_l (by omega)) ?_
  refine lv_ldiv hx hb d_Pipe_findBetween_45 (lNp (by omega) (by omega)) ?_
  obtain ⟨nf_1, enf_1⟩ : ∃ g9 : Nat → Int64, g9 = vp_updL nf k (((p_l hd fl (lN im) (lN fr9) k) - (p_r hd fl (lN im) (lN fr9) k)) / (lN (2 * im))) := ⟨_, rfl⟩
  refine q_last (k := k) 6 (ws1 := [((pa 0), .inr (2, [.int (nI (la + 1)), .int (nI im), .int (nI fr9), .int (nI lo9), .int (nI op9), .int (nI rs9), .ref (pa 1), .ref (pa 2), .ref (pa 3), .ref (pa 4), .ref (pa 5), .ref (pa 6), .ref (pa 7)])), ((pa 1), .inl (ct 1, 21, .inr (.inl hd))), ((pa 2), .inl (ct 1, 21, .inr (.inl fl))), ((pa 3), .inl (ct 1, 21, .inr (.inl cv))), ((pa 4), .inl (ct 1, 21, .inr (.inl gt))), ((pa 5), .inl (ct 1, 21, .inr (.inl nh_1))), ((pa 6), .inl (ct 1, 21, .inr (.inl nf_1))), ((pa 7), .inl (ct 1, 21, .inr (.inl nc)))]) enf_1 hx hb hE hP hD hS rfl rfl (by omega) (by decide) rfl d_Pipe_findBetween_46 (fun H locs hP hD hS => ?_)
  refine lv_aload_n hx hb d_Pipe_findBetween_47 rfl (lv_at hl 2 rfl) ?_
  refine lv_iload_n hx hb d_Pipe_findBetween_48 rfl (lv_at hl 3 rfl) ?_
  refine lv_lload_n hx hb d_Pipe_findBetween_49 rfl (lv_at hl 1 rfl) ?_
  refine lv_ldc2 (v := (-100)) hx hb hown (hts _ (List.mem_cons_of_mem _ x_767)) d_Pipe_findBetween_50 ?_
  refine lv_lload hx hb d_Pipe_findBetween_53 (lv_at hl 0 rfl) ?_
  refine lv_lsub hx hb d_Pipe_findBetween_55 ?_
  refine lv_aload_n hx hb d_Pipe_findBetween_56 rfl (lv_at hl 2 rfl) ?_
  refine q_get 0 1 i_Pipe rfl hx hb hts hown hE hP rfl (by decide) x_177 rfl d_Pipe_findBetween_57 ?_
  refine lv_i2l (v := lN im) hx hb d_Pipe_findBetween_60 (nI_l (by omega)) ?_
  refine lv_ldiv hx hb d_Pipe_findBetween_61 (hw.im0) ?_
  refine cWV (As := [.int (nI k), .long (p_l hd fl (lN im) (lN fr9) k), .long (((-100) - (p_r hd fl (lN im) (lN fr9) k)) / (lN im))]) (rest := []) (q9 := 0) (ci := 2) K_Pipe_findCavity x_768 hx hb hml hown hts hE hV hS (c_Pipe_findCavity l D ct st pa la im fr9 lo9 op9 rs9 hd fl cv gt nh_1 nf_1 nc k (p_l hd fl (lN im) (lN fr9) k) (((-100) - (p_r hd fl (lN im) (lN fr9) k)) / (lN im)) (by omega) (by omega) _) hP hD hA [0, 1, 2, 3, 4, 5, 6, 7] [] (wr := []) rfl rfl (by decide) (by decide) (by decide) rfl hP rfl rfl hl.1 rfl (Nat.le_of_ble_eq_true rfl) d_Pipe_findBetween_62 (Nat.le_of_ble_eq_true rfl) (Nat.le_of_ble_eq_true rfl) ⟨Nat.le_of_ble_eq_true rfl, Nat.le_of_ble_eq_true rfl⟩ (fun v W1 H locs hpost hP hD hS => ?_)
  obtain ⟨nh1_1, nf1_1, nc1_1, rfl, rfl, hq_62⟩ := hpost
  have hP : va_P D classes [((pa 0), .inr (2, [.int (nI (la + 1)), .int (nI im), .int (nI fr9), .int (nI lo9), .int (nI op9), .int (nI rs9), .ref (pa 1), .ref (pa 2), .ref (pa 3), .ref (pa 4), .ref (pa 5), .ref (pa 6), .ref (pa 7)])), ((pa 1), .inl (ct 1, 21, .inr (.inl hd))), ((pa 2), .inl (ct 1, 21, .inr (.inl fl))), ((pa 3), .inl (ct 1, 21, .inr (.inl cv))), ((pa 4), .inl (ct 1, 21, .inr (.inl gt))), ((pa 5), .inl (ct 1, 21, .inr (.inl nh1_1))), ((pa 6), .inl (ct 1, 21, .inr (.inl nf1_1))), ((pa 7), .inl (ct 1, 21, .inr (.inl nc1_1)))] H := hP
  have hD : va_D A [((pa 0), .inr (2, [.int (nI (la + 1)), .int (nI im), .int (nI fr9), .int (nI lo9), .int (nI op9), .int (nI rs9), .ref (pa 1), .ref (pa 2), .ref (pa 3), .ref (pa 4), .ref (pa 5), .ref (pa 6), .ref (pa 7)])), ((pa 1), .inl (ct 1, 21, .inr (.inl hd))), ((pa 2), .inl (ct 1, 21, .inr (.inl fl))), ((pa 3), .inl (ct 1, 21, .inr (.inl cv))), ((pa 4), .inl (ct 1, 21, .inr (.inl gt))), ((pa 5), .inl (ct 1, 21, .inr (.inl nh1_1))), ((pa 6), .inl (ct 1, 21, .inr (.inl nf1_1))), ((pa 7), .inl (ct 1, 21, .inr (.inl nc1_1)))] := hD
  exact rW_v hx hb hr hlk hAe hS hP hD (Nat.le_of_ble_eq_true rfl) (Nat.le_of_ble_eq_true rfl) d_Pipe_findBetween_65 ⟨nh1_1, nf1_1, nc1_1, rfl, rfl, nod_cav (by omega) (by rw [enh_1, p_hd_b hk.2]) (by rw [enf_1, ← p_fl_b (z := lN lo9) (op := lN op9) hk.2, show (2 : Int64) = lN 2 from rfl, lN_mul]) rfl (p_go_b hk.2) hq_62⟩
set_option maxHeartbeats 4000000 in
set_option maxRecDepth 100000 in
theorem c_Pipe_findValve (l : Launch) (D : va_G) (ct : Nat → ClassId) (st : Nat → Nat) (pa : Nat → Nat) (la : Nat) (im : Nat) (fr9 : Nat) (lo9 : Nat) (op9 : Nat) (rs9 : Nat) (hd : Nat → Int64) (fl : Nat → Int64) (cv : Nat → Int64) (gt : Nat → Int64) (nh : Nat → Int64) (nf : Nat → Int64) (nc : Nat → Int64) (hw : PW la im fr9 lo9 op9 rs9 hd fl) (sz : Nat) : Met l y_Pipe_findValve (wsy y_Pipe_findValve b_Pipe_findValve 4 (none)) (rmW 3 0 0 58) (PcW D ct st [.ref (pa 0)] [((pa 0), .inr (2, [.int (nI (la + 1)), .int (nI im), .int (nI fr9), .int (nI lo9), .int (nI op9), .int (nI rs9), .ref (pa 1), .ref (pa 2), .ref (pa 3), .ref (pa 4), .ref (pa 5), .ref (pa 6), .ref (pa 7)])), ((pa 1), .inl (ct 1, 21, .inr (.inl hd))), ((pa 2), .inl (ct 1, 21, .inr (.inl fl))), ((pa 3), .inl (ct 1, 21, .inr (.inl cv))), ((pa 4), .inl (ct 1, 21, .inr (.inl gt))), ((pa 5), .inl (ct 1, 21, .inr (.inl nh))), ((pa 6), .inl (ct 1, 21, .inr (.inl nf))), ((pa 7), .inl (ct 1, 21, .inr (.inl nc)))] sz) (QcW D [((pa 0), .inr (2, [.int (nI (la + 1)), .int (nI im), .int (nI fr9), .int (nI lo9), .int (nI op9), .int (nI rs9), .ref (pa 1), .ref (pa 2), .ref (pa 3), .ref (pa 4), .ref (pa 5), .ref (pa 6), .ref (pa 7)])), ((pa 1), .inl (ct 1, 21, .inr (.inl hd))), ((pa 2), .inl (ct 1, 21, .inr (.inl fl))), ((pa 3), .inl (ct 1, 21, .inr (.inl cv))), ((pa 4), .inl (ct 1, 21, .inr (.inl gt))), ((pa 5), .inl (ct 1, 21, .inr (.inl nh))), ((pa 6), .inl (ct 1, 21, .inr (.inl nf))), ((pa 7), .inl (ct 1, 21, .inr (.inl nc)))] sz (fun v W1 => ∃ (nh1 : Nat → Int64) (nf1 : Nat → Int64) (nc1 : Nat → Int64), v = none ∧ W1 = [((pa 0), .inr (2, [.int (nI (la + 1)), .int (nI im), .int (nI fr9), .int (nI lo9), .int (nI op9), .int (nI rs9), .ref (pa 1), .ref (pa 2), .ref (pa 3), .ref (pa 4), .ref (pa 5), .ref (pa 6), .ref (pa 7)])), ((pa 1), .inl (ct 1, 21, .inr (.inl hd))), ((pa 2), .inl (ct 1, 21, .inr (.inl fl))), ((pa 3), .inl (ct 1, 21, .inr (.inl cv))), ((pa 4), .inl (ct 1, 21, .inr (.inl gt))), ((pa 5), .inl (ct 1, 21, .inr (.inl nh1))), ((pa 6), .inl (ct 1, 21, .inr (.inl nf1))), ((pa 7), .inl (ct 1, 21, .inr (.inl nc1)))] ∧ (NodQ hd fl cv (lN im) (lN fr9) (lN lo9) (lN rs9) (lN op9) la la nh nf nc nh1 nf1 nc1))) 0 0 (va_A [((pa 0), .inr (2, [.int (nI (la + 1)), .int (nI im), .int (nI fr9), .int (nI lo9), .int (nI op9), .int (nI rs9), .ref (pa 1), .ref (pa 2), .ref (pa 3), .ref (pa 4), .ref (pa 5), .ref (pa 6), .ref (pa 7)])), ((pa 1), .inl (ct 1, 21, .inr (.inl hd))), ((pa 2), .inl (ct 1, 21, .inr (.inl fl))), ((pa 3), .inl (ct 1, 21, .inr (.inl cv))), ((pa 4), .inl (ct 1, 21, .inr (.inl gt))), ((pa 5), .inl (ct 1, 21, .inr (.inl nh))), ((pa 6), .inl (ct 1, 21, .inr (.inl nf))), ((pa 7), .inl (ct 1, 21, .inr (.inl nc)))] sz) := by
  refine enterW (by decide) (Nat.le_of_ble_eq_true rfl) ?_
  intro p e s m args below meth c ls A hx hb hr hml hown hts hlk hin hsz hAe hP hD hA hE hV hS hl
  have hl : lv_has ls 4 [(0, .ref (pa 0))] := hl
  have hla := hw.1
  have him := hw.2.1
  have hlo := hw.2.2.2.1
  have hop := hw.2.2.2.2.1
  have hrs := hw.2.2.2.2.2.1
  have hfr := hw.2.2.1
  have hmu := Nat.mul_le_mul hop him.2
  refine lv_aload_n hx hb d_Pipe_findValve_0 rfl (lv_at hl 0 rfl) ?_
  refine q_get 0 0 i_Pipe rfl hx hb hts hown hE hP rfl (by decide) x_175 rfl d_Pipe_findValve_1 ?_
  refine lv_iconst (v := 1) hx hb d_Pipe_findValve_4 (by decide) ?_
  refine q_isub (v := nI ((la + 1) - 1)) hx hb d_Pipe_findValve_5 (pk_sub (a := la + 1) (b := 1) (by omega)) ?_
  refine q_topi (v := nI la) (congrArg nI (by omega)) ?_
  refine lv_istore_n (lv' := [(1, .int (nI la)), (0, .ref (pa 0))]) hx hb d_Pipe_findValve_6 rfl hl (by decide) rfl (fun ls hl => ?_)
  refine lv_aload_n hx hb d_Pipe_findValve_7 rfl (lv_at hl 1 rfl) ?_
  refine lv_iload_n hx hb d_Pipe_findValve_8 rfl (lv_at hl 0 rfl) ?_
  refine cRV (As := [.int (nI la)]) (rest := []) (q9 := 0) (ci := 2) K_Pipe_fromLeft x_761 hx hb hml hown hts hE hV hS (c_Pipe_fromLeft l D ct st pa la im fr9 lo9 op9 rs9 hd fl cv gt nh nf nc la (by omega) (by omega) (by omega)) hP rfl hP rfl rfl hl.1 rfl (Nat.le_of_ble_eq_true rfl) d_Pipe_findValve_9 (Nat.le_of_ble_eq_true rfl) (Nat.le_of_ble_eq_true rfl) ⟨Nat.le_of_ble_eq_true rfl, Nat.le_of_ble_eq_true rfl⟩ ?_
  refine lv_lstore_n (lv' := [(2, .long (p_l hd fl (lN im) (lN fr9) la)), (1, .int (nI la)), (0, .ref (pa 0))]) hx hb d_Pipe_findValve_12 rfl hl (by decide) rfl (fun ls hl => ?_)
  refine lv_aload_n hx hb d_Pipe_findValve_13 rfl (lv_at hl 2 rfl) ?_
  refine q_get 0 11 i_Pipe rfl hx hb hts hown hE hP rfl (by decide) x_191 rfl d_Pipe_findValve_14 ?_
  refine lv_iload_n hx hb d_Pipe_findValve_17 rfl (lv_at hl 1 rfl) ?_
  refine lv_lload_n hx hb d_Pipe_findValve_18 rfl (lv_at hl 0 rfl) ?_
  refine lv_lconst (v := 0) hx hb d_Pipe_findValve_19 (by decide) ?_
  refine W.lcmp hx hb d_Pipe_findValve_20 ?_
  refine q_cmp_ge (tgt := 28) hx hb d_Pipe_findValve_21 (by decide) (fun h_21 => ?_) (fun h_21 => ?_)
  · refine lv_aload_n hx hb d_Pipe_findValve_28 rfl (lv_at hl 2 rfl) ?_
    refine q_get 0 4 i_Pipe rfl hx hb hts hown hE hP rfl (by decide) x_183 rfl d_Pipe_findValve_29 ?_
    refine lv_i2l (v := lN op9) hx hb d_Pipe_findValve_32 (nI_l (by omega)) ?_
    refine lv_lload_n hx hb d_Pipe_findValve_33 rfl (lv_at hl 0 rfl) ?_
    refine lv_lmul hx hb d_Pipe_findValve_34 ?_
    refine lv_bipush (v := 100) hx hb d_Pipe_findValve_35 (by decide) ?_
    refine lv_aload_n hx hb d_Pipe_findValve_37 rfl (lv_at hl 2 rfl) ?_
    refine q_get 0 3 i_Pipe rfl hx hb hts hown hE hP rfl (by decide) x_181 rfl d_Pipe_findValve_38 ?_
    refine q_imul (v := nI (100 * lo9)) hx hb d_Pipe_findValve_41 (pk_mul 100 lo9) ?_
    refine lv_aload_n hx hb d_Pipe_findValve_42 rfl (lv_at hl 2 rfl) ?_
    refine q_get 0 4 i_Pipe rfl hx hb hts hown hE hP rfl (by decide) x_183 rfl d_Pipe_findValve_43 ?_
    refine lv_aload_n hx hb d_Pipe_findValve_46 rfl (lv_at hl 2 rfl) ?_
    refine q_get 0 1 i_Pipe rfl hx hb hts hown hE hP rfl (by decide) x_177 rfl d_Pipe_findValve_47 ?_
    refine q_imul (v := nI (op9 * im)) hx hb d_Pipe_findValve_50 (pk_mul op9 im) ?_
    refine q_iadd (v := nI ((100 * lo9) + (op9 * im))) hx hb d_Pipe_findValve_51 (nI_add (100 * lo9) (op9 * im)) ?_
    refine lv_i2l (v := lN ((100 * lo9) + (op9 * im))) hx hb d_Pipe_findValve_52 (nI_l (by omega)) ?_
    refine lv_ldiv hx hb d_Pipe_findValve_53 (lNp (by omega) (by omega)) ?_
    refine q_topl (v := (lN op9 * p_l hd fl (lN im) (lN fr9) la / (100 * lN lo9 + lN op9 * lN im))) (by rw [show (100 : Int64) = lN 100 from rfl, lN_mul, lN_mul, lN_add]) ?_
    obtain ⟨nf_1, enf_1⟩ : ∃ g9 : Nat → Int64, g9 = vp_updL nf la (lN op9 * p_l hd fl (lN im) (lN fr9) la / (100 * lN lo9 + lN op9 * lN im)) := ⟨_, rfl⟩
    refine q_last (k := la) 6 (ws1 := [((pa 0), .inr (2, [.int (nI (la + 1)), .int (nI im), .int (nI fr9), .int (nI lo9), .int (nI op9), .int (nI rs9), .ref (pa 1), .ref (pa 2), .ref (pa 3), .ref (pa 4), .ref (pa 5), .ref (pa 6), .ref (pa 7)])), ((pa 1), .inl (ct 1, 21, .inr (.inl hd))), ((pa 2), .inl (ct 1, 21, .inr (.inl fl))), ((pa 3), .inl (ct 1, 21, .inr (.inl cv))), ((pa 4), .inl (ct 1, 21, .inr (.inl gt))), ((pa 5), .inl (ct 1, 21, .inr (.inl nh))), ((pa 6), .inl (ct 1, 21, .inr (.inl nf_1))), ((pa 7), .inl (ct 1, 21, .inr (.inl nc)))]) enf_1 hx hb hE hP hD hS rfl rfl (by omega) (by decide) rfl d_Pipe_findValve_54 (fun H locs hP hD hS => ?_)
    refine lv_aload_n hx hb d_Pipe_findValve_55 rfl (lv_at hl 2 rfl) ?_
    refine q_get 0 10 i_Pipe rfl hx hb hts hown hE hP rfl (by decide) x_190 rfl d_Pipe_findValve_56 ?_
    refine lv_iload_n hx hb d_Pipe_findValve_59 rfl (lv_at hl 1 rfl) ?_
    refine lv_lload_n hx hb d_Pipe_findValve_60 rfl (lv_at hl 0 rfl) ?_
    refine lv_aload_n hx hb d_Pipe_findValve_61 rfl (lv_at hl 2 rfl) ?_
    refine q_get 0 1 i_Pipe rfl hx hb hts hown hE hP rfl (by decide) x_177 rfl d_Pipe_findValve_62 ?_
    refine lv_i2l (v := lN im) hx hb d_Pipe_findValve_65 (nI_l (by omega)) ?_
    refine lv_aload_n hx hb d_Pipe_findValve_66 rfl (lv_at hl 2 rfl) ?_
    refine q_get 0 11 i_Pipe rfl hx hb hts hown hE hP rfl (by decide) x_191 rfl d_Pipe_findValve_67 ?_
    refine lv_iload_n hx hb d_Pipe_findValve_70 rfl (lv_at hl 1 rfl) ?_
    refine q_lald (k := la) 6 hx hb hE hP rfl rfl (by omega) (by decide) d_Pipe_findValve_71 ?_
    refine q_topl (v := (p_fl hd fl (lN im) (lN fr9) (lN lo9) (lN op9) la la)) (by rw [enf_1, pk_uLs]; first | exact p_fl_v0 (Int64.not_le.mp h_21) | exact p_fl_v1 (Int64.not_lt.mpr h_21)) ?_
    refine lv_lmul hx hb d_Pipe_findValve_72 ?_
    refine lv_lsub hx hb d_Pipe_findValve_73 ?_
    obtain ⟨nh_1, enh_1⟩ : ∃ g9 : Nat → Int64, g9 = vp_updL nh la ((p_l hd fl (lN im) (lN fr9) la) - ((lN im) * (p_fl hd fl (lN im) (lN fr9) (lN lo9) (lN op9) la la))) := ⟨_, rfl⟩
    refine q_last (k := la) 5 (ws1 := [((pa 0), .inr (2, [.int (nI (la + 1)), .int (nI im), .int (nI fr9), .int (nI lo9), .int (nI op9), .int (nI rs9), .ref (pa 1), .ref (pa 2), .ref (pa 3), .ref (pa 4), .ref (pa 5), .ref (pa 6), .ref (pa 7)])), ((pa 1), .inl (ct 1, 21, .inr (.inl hd))), ((pa 2), .inl (ct 1, 21, .inr (.inl fl))), ((pa 3), .inl (ct 1, 21, .inr (.inl cv))), ((pa 4), .inl (ct 1, 21, .inr (.inl gt))), ((pa 5), .inl (ct 1, 21, .inr (.inl nh_1))), ((pa 6), .inl (ct 1, 21, .inr (.inl nf_1))), ((pa 7), .inl (ct 1, 21, .inr (.inl nc)))]) enh_1 hx hb hE hP hD hS rfl rfl (by omega) (by decide) rfl d_Pipe_findValve_74 (fun H locs hP hD hS => ?_)
    refine lv_aload_n hx hb d_Pipe_findValve_75 rfl (lv_at hl 2 rfl) ?_
    refine lv_iload_n hx hb d_Pipe_findValve_76 rfl (lv_at hl 1 rfl) ?_
    refine lv_lload_n hx hb d_Pipe_findValve_77 rfl (lv_at hl 0 rfl) ?_
    refine lv_lconst (v := 0) hx hb d_Pipe_findValve_78 (by decide) ?_
    refine cWV (As := [.int (nI la), .long (p_l hd fl (lN im) (lN fr9) la), .long 0]) (rest := []) (q9 := 0) (ci := 2) K_Pipe_findCavity x_768 hx hb hml hown hts hE hV hS (c_Pipe_findCavity l D ct st pa la im fr9 lo9 op9 rs9 hd fl cv gt nh_1 nf_1 nc la (p_l hd fl (lN im) (lN fr9) la) 0 (by omega) (by omega) _) hP hD hA [0, 1, 2, 3, 4, 5, 6, 7] [] (wr := []) rfl rfl (by decide) (by decide) (by decide) rfl hP rfl rfl hl.1 rfl (Nat.le_of_ble_eq_true rfl) d_Pipe_findValve_79 (Nat.le_of_ble_eq_true rfl) (Nat.le_of_ble_eq_true rfl) ⟨Nat.le_of_ble_eq_true rfl, Nat.le_of_ble_eq_true rfl⟩ (fun v W1 H locs hpost hP hD hS => ?_)
    obtain ⟨nh1_1, nf1_1, nc1_1, rfl, rfl, hq_79⟩ := hpost
    have hP : va_P D classes [((pa 0), .inr (2, [.int (nI (la + 1)), .int (nI im), .int (nI fr9), .int (nI lo9), .int (nI op9), .int (nI rs9), .ref (pa 1), .ref (pa 2), .ref (pa 3), .ref (pa 4), .ref (pa 5), .ref (pa 6), .ref (pa 7)])), ((pa 1), .inl (ct 1, 21, .inr (.inl hd))), ((pa 2), .inl (ct 1, 21, .inr (.inl fl))), ((pa 3), .inl (ct 1, 21, .inr (.inl cv))), ((pa 4), .inl (ct 1, 21, .inr (.inl gt))), ((pa 5), .inl (ct 1, 21, .inr (.inl nh1_1))), ((pa 6), .inl (ct 1, 21, .inr (.inl nf1_1))), ((pa 7), .inl (ct 1, 21, .inr (.inl nc1_1)))] H := hP
    have hD : va_D A [((pa 0), .inr (2, [.int (nI (la + 1)), .int (nI im), .int (nI fr9), .int (nI lo9), .int (nI op9), .int (nI rs9), .ref (pa 1), .ref (pa 2), .ref (pa 3), .ref (pa 4), .ref (pa 5), .ref (pa 6), .ref (pa 7)])), ((pa 1), .inl (ct 1, 21, .inr (.inl hd))), ((pa 2), .inl (ct 1, 21, .inr (.inl fl))), ((pa 3), .inl (ct 1, 21, .inr (.inl cv))), ((pa 4), .inl (ct 1, 21, .inr (.inl gt))), ((pa 5), .inl (ct 1, 21, .inr (.inl nh1_1))), ((pa 6), .inl (ct 1, 21, .inr (.inl nf1_1))), ((pa 7), .inl (ct 1, 21, .inr (.inl nc1_1)))] := hD
    exact rW_v hx hb hr hlk hAe hS hP hD (Nat.le_of_ble_eq_true rfl) (Nat.le_of_ble_eq_true rfl) d_Pipe_findValve_82 ⟨nh1_1, nf1_1, nc1_1, rfl, rfl, nod_cav (by omega) (by rw [enh_1, p_hd_v]) (by rw [enf_1]; first | rw [← p_fl_v0 (Int64.not_le.mp h_21)] | rw [← p_fl_v1 (Int64.not_lt.mpr h_21)]) rfl p_go_v hq_79⟩
  · refine lv_lconst (v := 0) hx hb d_Pipe_findValve_24 (by decide) ?_
    refine lv_goto (tgt := 54) hx hb d_Pipe_findValve_25 (by decide) ?_
    obtain ⟨nf_2, enf_2⟩ : ∃ g9 : Nat → Int64, g9 = vp_updL nf la 0 := ⟨_, rfl⟩
    refine q_last (k := la) 6 (ws1 := [((pa 0), .inr (2, [.int (nI (la + 1)), .int (nI im), .int (nI fr9), .int (nI lo9), .int (nI op9), .int (nI rs9), .ref (pa 1), .ref (pa 2), .ref (pa 3), .ref (pa 4), .ref (pa 5), .ref (pa 6), .ref (pa 7)])), ((pa 1), .inl (ct 1, 21, .inr (.inl hd))), ((pa 2), .inl (ct 1, 21, .inr (.inl fl))), ((pa 3), .inl (ct 1, 21, .inr (.inl cv))), ((pa 4), .inl (ct 1, 21, .inr (.inl gt))), ((pa 5), .inl (ct 1, 21, .inr (.inl nh))), ((pa 6), .inl (ct 1, 21, .inr (.inl nf_2))), ((pa 7), .inl (ct 1, 21, .inr (.inl nc)))]) enf_2 hx hb hE hP hD hS rfl rfl (by omega) (by decide) rfl d_Pipe_findValve_54 (fun H locs hP hD hS => ?_)
    refine lv_aload_n hx hb d_Pipe_findValve_55 rfl (lv_at hl 2 rfl) ?_
    refine q_get 0 10 i_Pipe rfl hx hb hts hown hE hP rfl (by decide) x_190 rfl d_Pipe_findValve_56 ?_
    refine lv_iload_n hx hb d_Pipe_findValve_59 rfl (lv_at hl 1 rfl) ?_
    refine lv_lload_n hx hb d_Pipe_findValve_60 rfl (lv_at hl 0 rfl) ?_
    refine lv_aload_n hx hb d_Pipe_findValve_61 rfl (lv_at hl 2 rfl) ?_
    refine q_get 0 1 i_Pipe rfl hx hb hts hown hE hP rfl (by decide) x_177 rfl d_Pipe_findValve_62 ?_
    refine lv_i2l (v := lN im) hx hb d_Pipe_findValve_65 (nI_l (by omega)) ?_
    refine lv_aload_n hx hb d_Pipe_findValve_66 rfl (lv_at hl 2 rfl) ?_
    refine q_get 0 11 i_Pipe rfl hx hb hts hown hE hP rfl (by decide) x_191 rfl d_Pipe_findValve_67 ?_
    refine lv_iload_n hx hb d_Pipe_findValve_70 rfl (lv_at hl 1 rfl) ?_
    refine q_lald (k := la) 6 hx hb hE hP rfl rfl (by omega) (by decide) d_Pipe_findValve_71 ?_
    refine q_topl (v := (p_fl hd fl (lN im) (lN fr9) (lN lo9) (lN op9) la la)) (by rw [enf_2, pk_uLs]; first | exact p_fl_v0 (Int64.not_le.mp h_21) | exact p_fl_v1 (Int64.not_lt.mpr h_21)) ?_
    refine lv_lmul hx hb d_Pipe_findValve_72 ?_
    refine lv_lsub hx hb d_Pipe_findValve_73 ?_
    obtain ⟨nh_2, enh_2⟩ : ∃ g9 : Nat → Int64, g9 = vp_updL nh la ((p_l hd fl (lN im) (lN fr9) la) - ((lN im) * (p_fl hd fl (lN im) (lN fr9) (lN lo9) (lN op9) la la))) := ⟨_, rfl⟩
    refine q_last (k := la) 5 (ws1 := [((pa 0), .inr (2, [.int (nI (la + 1)), .int (nI im), .int (nI fr9), .int (nI lo9), .int (nI op9), .int (nI rs9), .ref (pa 1), .ref (pa 2), .ref (pa 3), .ref (pa 4), .ref (pa 5), .ref (pa 6), .ref (pa 7)])), ((pa 1), .inl (ct 1, 21, .inr (.inl hd))), ((pa 2), .inl (ct 1, 21, .inr (.inl fl))), ((pa 3), .inl (ct 1, 21, .inr (.inl cv))), ((pa 4), .inl (ct 1, 21, .inr (.inl gt))), ((pa 5), .inl (ct 1, 21, .inr (.inl nh_2))), ((pa 6), .inl (ct 1, 21, .inr (.inl nf_2))), ((pa 7), .inl (ct 1, 21, .inr (.inl nc)))]) enh_2 hx hb hE hP hD hS rfl rfl (by omega) (by decide) rfl d_Pipe_findValve_74 (fun H locs hP hD hS => ?_)
    refine lv_aload_n hx hb d_Pipe_findValve_75 rfl (lv_at hl 2 rfl) ?_
    refine lv_iload_n hx hb d_Pipe_findValve_76 rfl (lv_at hl 1 rfl) ?_
    refine lv_lload_n hx hb d_Pipe_findValve_77 rfl (lv_at hl 0 rfl) ?_
    refine lv_lconst (v := 0) hx hb d_Pipe_findValve_78 (by decide) ?_
    refine cWV (As := [.int (nI la), .long (p_l hd fl (lN im) (lN fr9) la), .long 0]) (rest := []) (q9 := 0) (ci := 2) K_Pipe_findCavity x_768 hx hb hml hown hts hE hV hS (c_Pipe_findCavity l D ct st pa la im fr9 lo9 op9 rs9 hd fl cv gt nh_2 nf_2 nc la (p_l hd fl (lN im) (lN fr9) la) 0 (by omega) (by omega) _) hP hD hA [0, 1, 2, 3, 4, 5, 6, 7] [] (wr := []) rfl rfl (by decide) (by decide) (by decide) rfl hP rfl rfl hl.1 rfl (Nat.le_of_ble_eq_true rfl) d_Pipe_findValve_79 (Nat.le_of_ble_eq_true rfl) (Nat.le_of_ble_eq_true rfl) ⟨Nat.le_of_ble_eq_true rfl, Nat.le_of_ble_eq_true rfl⟩ (fun v W1 H locs hpost hP hD hS => ?_)
    obtain ⟨nh1_2, nf1_2, nc1_2, rfl, rfl, hq_79⟩ := hpost
    have hP : va_P D classes [((pa 0), .inr (2, [.int (nI (la + 1)), .int (nI im), .int (nI fr9), .int (nI lo9), .int (nI op9), .int (nI rs9), .ref (pa 1), .ref (pa 2), .ref (pa 3), .ref (pa 4), .ref (pa 5), .ref (pa 6), .ref (pa 7)])), ((pa 1), .inl (ct 1, 21, .inr (.inl hd))), ((pa 2), .inl (ct 1, 21, .inr (.inl fl))), ((pa 3), .inl (ct 1, 21, .inr (.inl cv))), ((pa 4), .inl (ct 1, 21, .inr (.inl gt))), ((pa 5), .inl (ct 1, 21, .inr (.inl nh1_2))), ((pa 6), .inl (ct 1, 21, .inr (.inl nf1_2))), ((pa 7), .inl (ct 1, 21, .inr (.inl nc1_2)))] H := hP
    have hD : va_D A [((pa 0), .inr (2, [.int (nI (la + 1)), .int (nI im), .int (nI fr9), .int (nI lo9), .int (nI op9), .int (nI rs9), .ref (pa 1), .ref (pa 2), .ref (pa 3), .ref (pa 4), .ref (pa 5), .ref (pa 6), .ref (pa 7)])), ((pa 1), .inl (ct 1, 21, .inr (.inl hd))), ((pa 2), .inl (ct 1, 21, .inr (.inl fl))), ((pa 3), .inl (ct 1, 21, .inr (.inl cv))), ((pa 4), .inl (ct 1, 21, .inr (.inl gt))), ((pa 5), .inl (ct 1, 21, .inr (.inl nh1_2))), ((pa 6), .inl (ct 1, 21, .inr (.inl nf1_2))), ((pa 7), .inl (ct 1, 21, .inr (.inl nc1_2)))] := hD
    exact rW_v hx hb hr hlk hAe hS hP hD (Nat.le_of_ble_eq_true rfl) (Nat.le_of_ble_eq_true rfl) d_Pipe_findValve_82 ⟨nh1_2, nf1_2, nc1_2, rfl, rfl, nod_cav (by omega) (by rw [enh_2, p_hd_v]) (by rw [enf_2]; first | rw [← p_fl_v0 (Int64.not_le.mp h_21)] | rw [← p_fl_v1 (Int64.not_lt.mpr h_21)]) rfl p_go_v hq_79⟩
set_option maxHeartbeats 4000000 in
set_option maxRecDepth 100000 in
theorem c_Pipe_isAllowed (l : Launch) (D : va_G) (ct : Nat → ClassId) (st : Nat → Nat) (pa : Nat → Nat) (la : Nat) (im : Nat) (fr9 : Nat) (lo9 : Nat) (op9 : Nat) (rs9 : Nat) (hd : Nat → Int64) (fl : Nat → Int64) (cv : Nat → Int64) (gt : Nat → Int64) (nh : Nat → Int64) (nf : Nat → Int64) (nc : Nat → Int64) (k : Nat) (hk : k < 21) (h1 : -9223372036854775808 < (nh k).toInt) (h2 : -9223372036854775808 < (nf k).toInt) : Met l y_Pipe_isAllowed (wsy y_Pipe_isAllowed b_Pipe_isAllowed 2 (some .boolean)) (k2_rm 1 13) (PcR D ct st [.ref (pa 0), .int (nI k)] [((pa 0), .inr (2, [.int (nI (la + 1)), .int (nI im), .int (nI fr9), .int (nI lo9), .int (nI op9), .int (nI rs9), .ref (pa 1), .ref (pa 2), .ref (pa 3), .ref (pa 4), .ref (pa 5), .ref (pa 6), .ref (pa 7)])), ((pa 1), .inl (ct 1, 21, .inr (.inl hd))), ((pa 2), .inl (ct 1, 21, .inr (.inl fl))), ((pa 3), .inl (ct 1, 21, .inr (.inl cv))), ((pa 4), .inl (ct 1, 21, .inr (.inl gt))), ((pa 5), .inl (ct 1, 21, .inr (.inl nh))), ((pa 6), .inl (ct 1, 21, .inr (.inl nf))), ((pa 7), .inl (ct 1, 21, .inr (.inl nc)))]) (k2_QcV (.int (bI (w_in (nh k) (-1000000) 1000000 ∧ w_in (nf k) (-100000) 100000)))) 0 0 (fun _ => False) := by
  refine enterR (by decide) (Nat.le_of_ble_eq_true rfl) ?_
  intro p e s m args below meth c ls hx hb hr hml hown hts hlk hP hE hV hS hl
  have hl : lv_has ls 2 [(0, .ref (pa 0)), (1, .int (nI k))] := hl
  refine lv_aload_n hx hb d_Pipe_isAllowed_0 rfl (lv_at hl 0 rfl) ?_
  refine q_get 0 10 i_Pipe rfl hx hb hts hown hE hP rfl (by decide) x_190 rfl d_Pipe_isAllowed_1 ?_
  refine lv_iload_n hx hb d_Pipe_isAllowed_4 rfl (lv_at hl 1 rfl) ?_
  refine q_lald (k := k) 5 hx hb hE hP rfl rfl (by omega) (by decide) d_Pipe_isAllowed_5 ?_
  refine va_mabs_long hx hb (by rw [hml]; exact hl.1.symm) hown (hts _ (List.mem_cons_of_mem _ x_755)) (hts _ (List.mem_cons_of_mem _ x_517)) (hts _ (List.mem_cons_of_mem _ x_13)) (hts _ (List.mem_cons_of_mem _ x_518)) (Nat.le_of_ble_eq_true rfl) (Nat.le_of_ble_eq_true rfl) (Nat.zero_le _) (Nat.zero_le _) d_Pipe_isAllowed_6 ?_
  refine q_topl (v := (abL (nh k))) rfl ?_
  refine lv_ldc2 (v := 1000000) hx hb hown (hts _ (List.mem_cons_of_mem _ x_780)) d_Pipe_isAllowed_9 ?_
  refine W.lcmp hx hb d_Pipe_isAllowed_12 ?_
  refine q_cmp_gt (tgt := 36) hx hb d_Pipe_isAllowed_13 (by decide) (fun h_13 => ?_) (fun h_13 => ?_)
  · refine lv_iconst (v := 0) hx hb d_Pipe_isAllowed_36 (by decide) ?_
    exact rR_z hx hb hr hlk d_Pipe_isAllowed_37 (bI_0 (by first | exact ⟨(abL_in (by decide) h1).mp (Int64.not_lt.mp h_13), (abL_in (by decide) h2).mp (Int64.not_lt.mp h_29)⟩ | exact fun z => absurd ((abL_in (by decide) h1).mpr z.1) (Int64.not_le.mpr h_13) | exact fun z => absurd ((abL_in (by decide) h2).mpr z.2) (Int64.not_le.mpr h_29)))
  · refine lv_aload_n hx hb d_Pipe_isAllowed_16 rfl (lv_at hl 0 rfl) ?_
    refine q_get 0 11 i_Pipe rfl hx hb hts hown hE hP rfl (by decide) x_191 rfl d_Pipe_isAllowed_17 ?_
    refine lv_iload_n hx hb d_Pipe_isAllowed_20 rfl (lv_at hl 1 rfl) ?_
    refine q_lald (k := k) 6 hx hb hE hP rfl rfl (by omega) (by decide) d_Pipe_isAllowed_21 ?_
    refine va_mabs_long hx hb (by rw [hml]; exact hl.1.symm) hown (hts _ (List.mem_cons_of_mem _ x_755)) (hts _ (List.mem_cons_of_mem _ x_517)) (hts _ (List.mem_cons_of_mem _ x_13)) (hts _ (List.mem_cons_of_mem _ x_518)) (Nat.le_of_ble_eq_true rfl) (Nat.le_of_ble_eq_true rfl) (Nat.zero_le _) (Nat.zero_le _) d_Pipe_isAllowed_22 ?_
    refine q_topl (v := (abL (nf k))) rfl ?_
    refine lv_ldc2 (v := 100000) hx hb hown (hts _ (List.mem_cons_of_mem _ x_781)) d_Pipe_isAllowed_25 ?_
    refine W.lcmp hx hb d_Pipe_isAllowed_28 ?_
    refine q_cmp_gt (tgt := 36) hx hb d_Pipe_isAllowed_29 (by decide) (fun h_29 => ?_) (fun h_29 => ?_)
    · refine lv_iconst (v := 0) hx hb d_Pipe_isAllowed_36 (by decide) ?_
      exact rR_z hx hb hr hlk d_Pipe_isAllowed_37 (bI_0 (by first | exact ⟨(abL_in (by decide) h1).mp (Int64.not_lt.mp h_13), (abL_in (by decide) h2).mp (Int64.not_lt.mp h_29)⟩ | exact fun z => absurd ((abL_in (by decide) h1).mpr z.1) (Int64.not_le.mpr h_13) | exact fun z => absurd ((abL_in (by decide) h2).mpr z.2) (Int64.not_le.mpr h_29)))
    · refine lv_iconst (v := 1) hx hb d_Pipe_isAllowed_32 (by decide) ?_
      refine lv_goto (tgt := 37) hx hb d_Pipe_isAllowed_33 (by decide) ?_
      exact rR_z hx hb hr hlk d_Pipe_isAllowed_37 (bI_1 (by first | exact ⟨(abL_in (by decide) h1).mp (Int64.not_lt.mp h_13), (abL_in (by decide) h2).mp (Int64.not_lt.mp h_29)⟩ | exact fun z => absurd ((abL_in (by decide) h1).mpr z.1) (Int64.not_le.mpr h_13) | exact fun z => absurd ((abL_in (by decide) h2).mpr z.2) (Int64.not_le.mpr h_29)))
set_option maxHeartbeats 4000000 in
set_option maxRecDepth 100000 in
theorem c_Pipe_take (l : Launch) (D : va_G) (ct : Nat → ClassId) (st : Nat → Nat) (pa : Nat → Nat) (la : Nat) (im : Nat) (fr9 : Nat) (lo9 : Nat) (op9 : Nat) (rs9 : Nat) (hd : Nat → Int64) (fl : Nat → Int64) (cv : Nat → Int64) (gt : Nat → Int64) (nh : Nat → Int64) (nf : Nat → Int64) (nc : Nat → Int64) (hla : la ≤ 20) (sz : Nat) : Met l y_Pipe_take (wsy y_Pipe_take b_Pipe_take 2 (none)) (rmW 2 0 0 85) (PcW D ct st [.ref (pa 0)] [((pa 0), .inr (2, [.int (nI (la + 1)), .int (nI im), .int (nI fr9), .int (nI lo9), .int (nI op9), .int (nI rs9), .ref (pa 1), .ref (pa 2), .ref (pa 3), .ref (pa 4), .ref (pa 5), .ref (pa 6), .ref (pa 7)])), ((pa 1), .inl (ct 1, 21, .inr (.inl hd))), ((pa 2), .inl (ct 1, 21, .inr (.inl fl))), ((pa 3), .inl (ct 1, 21, .inr (.inl cv))), ((pa 4), .inl (ct 1, 21, .inr (.inl gt))), ((pa 5), .inl (ct 1, 21, .inr (.inl nh))), ((pa 6), .inl (ct 1, 21, .inr (.inl nf))), ((pa 7), .inl (ct 1, 21, .inr (.inl nc)))] sz) (QcW D [((pa 0), .inr (2, [.int (nI (la + 1)), .int (nI im), .int (nI fr9), .int (nI lo9), .int (nI op9), .int (nI rs9), .ref (pa 1), .ref (pa 2), .ref (pa 3), .ref (pa 4), .ref (pa 5), .ref (pa 6), .ref (pa 7)])), ((pa 1), .inl (ct 1, 21, .inr (.inl hd))), ((pa 2), .inl (ct 1, 21, .inr (.inl fl))), ((pa 3), .inl (ct 1, 21, .inr (.inl cv))), ((pa 4), .inl (ct 1, 21, .inr (.inl gt))), ((pa 5), .inl (ct 1, 21, .inr (.inl nh))), ((pa 6), .inl (ct 1, 21, .inr (.inl nf))), ((pa 7), .inl (ct 1, 21, .inr (.inl nc)))] sz (fun v W1 => ∃ (hd1 : Nat → Int64) (fl1 : Nat → Int64) (cv1 : Nat → Int64) (gt1 : Nat → Int64), v = none ∧ W1 = [((pa 0), .inr (2, [.int (nI (la + 1)), .int (nI im), .int (nI fr9), .int (nI lo9), .int (nI op9), .int (nI rs9), .ref (pa 1), .ref (pa 2), .ref (pa 3), .ref (pa 4), .ref (pa 5), .ref (pa 6), .ref (pa 7)])), ((pa 1), .inl (ct 1, 21, .inr (.inl hd1))), ((pa 2), .inl (ct 1, 21, .inr (.inl fl1))), ((pa 3), .inl (ct 1, 21, .inr (.inl cv1))), ((pa 4), .inl (ct 1, 21, .inr (.inl gt1))), ((pa 5), .inl (ct 1, 21, .inr (.inl nh))), ((pa 6), .inl (ct 1, 21, .inr (.inl nf))), ((pa 7), .inl (ct 1, 21, .inr (.inl nc)))] ∧ (∀ j, j ≤ la → hd1 j = nh j ∧ fl1 j = nf j ∧ cv1 j = nc j ∧ gt1 j = (if gt j < nh j then nh j else gt j)))) 0 0 (va_A [((pa 0), .inr (2, [.int (nI (la + 1)), .int (nI im), .int (nI fr9), .int (nI lo9), .int (nI op9), .int (nI rs9), .ref (pa 1), .ref (pa 2), .ref (pa 3), .ref (pa 4), .ref (pa 5), .ref (pa 6), .ref (pa 7)])), ((pa 1), .inl (ct 1, 21, .inr (.inl hd))), ((pa 2), .inl (ct 1, 21, .inr (.inl fl))), ((pa 3), .inl (ct 1, 21, .inr (.inl cv))), ((pa 4), .inl (ct 1, 21, .inr (.inl gt))), ((pa 5), .inl (ct 1, 21, .inr (.inl nh))), ((pa 6), .inl (ct 1, 21, .inr (.inl nf))), ((pa 7), .inl (ct 1, 21, .inr (.inl nc)))] sz) := by
  refine enterW (by decide) (Nat.le_of_ble_eq_true rfl) ?_
  intro p e s m args below meth c ls A hx hb hr hml hown hts hlk hin hsz hAe hP hD hA hE hV hS hl
  have hl : lv_has ls 2 [(0, .ref (pa 0))] := hl
  refine lv_aload_n hx hb d_Pipe_take_0 rfl (lv_at hl 0 rfl) ?_
  refine q_get 0 10 i_Pipe rfl hx hb hts hown hE hP rfl (by decide) x_190 rfl d_Pipe_take_1 ?_
  refine lv_aload_n hx hb d_Pipe_take_4 rfl (lv_at hl 0 rfl) ?_
  refine q_get 0 6 i_Pipe rfl hx hb hts hown hE hP rfl (by decide) x_186 rfl d_Pipe_take_5 ?_
  refine cWSN (As := [.ref (pa 5), .ref (pa 1)]) (rest := []) K_X_copyRow_1 nw_786 hx hb hml hown hts hE hV hS (c_X_copyRow_1 l D ct st (pa 5) (pa 1) 21 nh hd (by omega) _) hP hD hA [5, 1] [0, 2, 3, 4, 6, 7] (wr := [((pa 0), .inr (2, [.int (nI (la + 1)), .int (nI im), .int (nI fr9), .int (nI lo9), .int (nI op9), .int (nI rs9), .ref (pa 1), .ref (pa 2), .ref (pa 3), .ref (pa 4), .ref (pa 5), .ref (pa 6), .ref (pa 7)])), ((pa 2), .inl (ct 1, 21, .inr (.inl fl))), ((pa 3), .inl (ct 1, 21, .inr (.inl cv))), ((pa 4), .inl (ct 1, 21, .inr (.inl gt))), ((pa 6), .inl (ct 1, 21, .inr (.inl nf))), ((pa 7), .inl (ct 1, 21, .inr (.inl nc)))]) rfl rfl (by decide) (by decide) (by decide) rfl hl.1 rfl (Nat.le_of_ble_eq_true rfl) d_Pipe_take_8 (Nat.le_of_ble_eq_true rfl) (Nat.le_of_ble_eq_true rfl) ⟨Nat.le_of_ble_eq_true rfl, Nat.le_of_ble_eq_true rfl⟩ (fun v W1 H locs hpost hP hD hS => ?_)
  obtain ⟨rfl, rfl, hq_8⟩ := hpost
  have hP : va_P D classes [((pa 0), .inr (2, [.int (nI (la + 1)), .int (nI im), .int (nI fr9), .int (nI lo9), .int (nI op9), .int (nI rs9), .ref (pa 1), .ref (pa 2), .ref (pa 3), .ref (pa 4), .ref (pa 5), .ref (pa 6), .ref (pa 7)])), ((pa 2), .inl (ct 1, 21, .inr (.inl fl))), ((pa 3), .inl (ct 1, 21, .inr (.inl cv))), ((pa 4), .inl (ct 1, 21, .inr (.inl gt))), ((pa 6), .inl (ct 1, 21, .inr (.inl nf))), ((pa 7), .inl (ct 1, 21, .inr (.inl nc))), ((pa 5), .inl (ct 1, 21, .inr (.inl nh))), ((pa 1), .inl (ct 1, 21, .inr (.inl (fun j => if j < 21 then nh j else hd j))))] H := hP
  have hD : va_D A [((pa 0), .inr (2, [.int (nI (la + 1)), .int (nI im), .int (nI fr9), .int (nI lo9), .int (nI op9), .int (nI rs9), .ref (pa 1), .ref (pa 2), .ref (pa 3), .ref (pa 4), .ref (pa 5), .ref (pa 6), .ref (pa 7)])), ((pa 2), .inl (ct 1, 21, .inr (.inl fl))), ((pa 3), .inl (ct 1, 21, .inr (.inl cv))), ((pa 4), .inl (ct 1, 21, .inr (.inl gt))), ((pa 6), .inl (ct 1, 21, .inr (.inl nf))), ((pa 7), .inl (ct 1, 21, .inr (.inl nc))), ((pa 5), .inl (ct 1, 21, .inr (.inl nh))), ((pa 1), .inl (ct 1, 21, .inr (.inl (fun j => if j < 21 then nh j else hd j))))] := hD
  refine lv_aload_n hx hb d_Pipe_take_11 rfl (lv_at hl 0 rfl) ?_
  refine q_get 0 11 i_Pipe rfl hx hb hts hown hE hP rfl (by decide) x_191 rfl d_Pipe_take_12 ?_
  refine lv_aload_n hx hb d_Pipe_take_15 rfl (lv_at hl 0 rfl) ?_
  refine q_get 0 7 i_Pipe rfl hx hb hts hown hE hP rfl (by decide) x_187 rfl d_Pipe_take_16 ?_
  refine cWSN (As := [.ref (pa 6), .ref (pa 2)]) (rest := []) K_X_copyRow_1 nw_786 hx hb hml hown hts hE hV hS (c_X_copyRow_1 l D ct st (pa 6) (pa 2) 21 nf fl (by omega) _) hP hD hA [4, 1] [0, 2, 3, 5, 6, 7] (wr := [((pa 0), .inr (2, [.int (nI (la + 1)), .int (nI im), .int (nI fr9), .int (nI lo9), .int (nI op9), .int (nI rs9), .ref (pa 1), .ref (pa 2), .ref (pa 3), .ref (pa 4), .ref (pa 5), .ref (pa 6), .ref (pa 7)])), ((pa 3), .inl (ct 1, 21, .inr (.inl cv))), ((pa 4), .inl (ct 1, 21, .inr (.inl gt))), ((pa 7), .inl (ct 1, 21, .inr (.inl nc))), ((pa 5), .inl (ct 1, 21, .inr (.inl nh))), ((pa 1), .inl (ct 1, 21, .inr (.inl (fun j => if j < 21 then nh j else hd j))))]) rfl rfl (by decide) (by decide) (by decide) rfl hl.1 rfl (Nat.le_of_ble_eq_true rfl) d_Pipe_take_19 (Nat.le_of_ble_eq_true rfl) (Nat.le_of_ble_eq_true rfl) ⟨Nat.le_of_ble_eq_true rfl, Nat.le_of_ble_eq_true rfl⟩ (fun v W1 H locs hpost hP hD hS => ?_)
  obtain ⟨rfl, rfl, hq_19⟩ := hpost
  have hP : va_P D classes [((pa 0), .inr (2, [.int (nI (la + 1)), .int (nI im), .int (nI fr9), .int (nI lo9), .int (nI op9), .int (nI rs9), .ref (pa 1), .ref (pa 2), .ref (pa 3), .ref (pa 4), .ref (pa 5), .ref (pa 6), .ref (pa 7)])), ((pa 3), .inl (ct 1, 21, .inr (.inl cv))), ((pa 4), .inl (ct 1, 21, .inr (.inl gt))), ((pa 7), .inl (ct 1, 21, .inr (.inl nc))), ((pa 5), .inl (ct 1, 21, .inr (.inl nh))), ((pa 1), .inl (ct 1, 21, .inr (.inl (fun j => if j < 21 then nh j else hd j)))), ((pa 6), .inl (ct 1, 21, .inr (.inl nf))), ((pa 2), .inl (ct 1, 21, .inr (.inl (fun j => if j < 21 then nf j else fl j))))] H := hP
  have hD : va_D A [((pa 0), .inr (2, [.int (nI (la + 1)), .int (nI im), .int (nI fr9), .int (nI lo9), .int (nI op9), .int (nI rs9), .ref (pa 1), .ref (pa 2), .ref (pa 3), .ref (pa 4), .ref (pa 5), .ref (pa 6), .ref (pa 7)])), ((pa 3), .inl (ct 1, 21, .inr (.inl cv))), ((pa 4), .inl (ct 1, 21, .inr (.inl gt))), ((pa 7), .inl (ct 1, 21, .inr (.inl nc))), ((pa 5), .inl (ct 1, 21, .inr (.inl nh))), ((pa 1), .inl (ct 1, 21, .inr (.inl (fun j => if j < 21 then nh j else hd j)))), ((pa 6), .inl (ct 1, 21, .inr (.inl nf))), ((pa 2), .inl (ct 1, 21, .inr (.inl (fun j => if j < 21 then nf j else fl j))))] := hD
  refine lv_aload_n hx hb d_Pipe_take_22 rfl (lv_at hl 0 rfl) ?_
  refine q_get 0 12 i_Pipe rfl hx hb hts hown hE hP rfl (by decide) x_192 rfl d_Pipe_take_23 ?_
  refine lv_aload_n hx hb d_Pipe_take_26 rfl (lv_at hl 0 rfl) ?_
  refine q_get 0 8 i_Pipe rfl hx hb hts hown hE hP rfl (by decide) x_188 rfl d_Pipe_take_27 ?_
  refine cWSN (As := [.ref (pa 7), .ref (pa 3)]) (rest := []) K_X_copyRow_1 nw_786 hx hb hml hown hts hE hV hS (c_X_copyRow_1 l D ct st (pa 7) (pa 3) 21 nc cv (by omega) _) hP hD hA [3, 1] [0, 2, 4, 5, 6, 7] (wr := [((pa 0), .inr (2, [.int (nI (la + 1)), .int (nI im), .int (nI fr9), .int (nI lo9), .int (nI op9), .int (nI rs9), .ref (pa 1), .ref (pa 2), .ref (pa 3), .ref (pa 4), .ref (pa 5), .ref (pa 6), .ref (pa 7)])), ((pa 4), .inl (ct 1, 21, .inr (.inl gt))), ((pa 5), .inl (ct 1, 21, .inr (.inl nh))), ((pa 1), .inl (ct 1, 21, .inr (.inl (fun j => if j < 21 then nh j else hd j)))), ((pa 6), .inl (ct 1, 21, .inr (.inl nf))), ((pa 2), .inl (ct 1, 21, .inr (.inl (fun j => if j < 21 then nf j else fl j))))]) rfl rfl (by decide) (by decide) (by decide) rfl hl.1 rfl (Nat.le_of_ble_eq_true rfl) d_Pipe_take_30 (Nat.le_of_ble_eq_true rfl) (Nat.le_of_ble_eq_true rfl) ⟨Nat.le_of_ble_eq_true rfl, Nat.le_of_ble_eq_true rfl⟩ (fun v W1 H locs hpost hP hD hS => ?_)
  obtain ⟨rfl, rfl, hq_30⟩ := hpost
  have hP : va_P D classes [((pa 0), .inr (2, [.int (nI (la + 1)), .int (nI im), .int (nI fr9), .int (nI lo9), .int (nI op9), .int (nI rs9), .ref (pa 1), .ref (pa 2), .ref (pa 3), .ref (pa 4), .ref (pa 5), .ref (pa 6), .ref (pa 7)])), ((pa 4), .inl (ct 1, 21, .inr (.inl gt))), ((pa 5), .inl (ct 1, 21, .inr (.inl nh))), ((pa 1), .inl (ct 1, 21, .inr (.inl (fun j => if j < 21 then nh j else hd j)))), ((pa 6), .inl (ct 1, 21, .inr (.inl nf))), ((pa 2), .inl (ct 1, 21, .inr (.inl (fun j => if j < 21 then nf j else fl j)))), ((pa 7), .inl (ct 1, 21, .inr (.inl nc))), ((pa 3), .inl (ct 1, 21, .inr (.inl (fun j => if j < 21 then nc j else cv j))))] H := hP
  have hD : va_D A [((pa 0), .inr (2, [.int (nI (la + 1)), .int (nI im), .int (nI fr9), .int (nI lo9), .int (nI op9), .int (nI rs9), .ref (pa 1), .ref (pa 2), .ref (pa 3), .ref (pa 4), .ref (pa 5), .ref (pa 6), .ref (pa 7)])), ((pa 4), .inl (ct 1, 21, .inr (.inl gt))), ((pa 5), .inl (ct 1, 21, .inr (.inl nh))), ((pa 1), .inl (ct 1, 21, .inr (.inl (fun j => if j < 21 then nh j else hd j)))), ((pa 6), .inl (ct 1, 21, .inr (.inl nf))), ((pa 2), .inl (ct 1, 21, .inr (.inl (fun j => if j < 21 then nf j else fl j)))), ((pa 7), .inl (ct 1, 21, .inr (.inl nc))), ((pa 3), .inl (ct 1, 21, .inr (.inl (fun j => if j < 21 then nc j else cv j))))] := hD
  refine lv_iconst (v := 0) hx hb d_Pipe_take_33 (by decide) ?_
  refine lv_istore_n (lv' := [(1, .int 0), (0, .ref (pa 0))]) hx hb d_Pipe_take_34 rfl hl (by decide) rfl (fun ls hl => ?_)
  have loop_35 : ∀ (n9 : Nat) (i : Nat) (Tg : Nat → Int64) (hi : i ≤ la + 1) (hT : (∀ j, j < i → Tg j = (if gt j < nh j then nh j else gt j)) ∧ ∀ j, i ≤ j → Tg j = gt j) (hn9 : la + 1 - i < n9) (H : Heap) (locs : List Loc) (ls : Array Slot), va_P D classes [((pa 0), .inr (2, [.int (nI (la + 1)), .int (nI im), .int (nI fr9), .int (nI lo9), .int (nI op9), .int (nI rs9), .ref (pa 1), .ref (pa 2), .ref (pa 3), .ref (pa 4), .ref (pa 5), .ref (pa 6), .ref (pa 7)])), ((pa 4), .inl (ct 1, 21, .inr (.inl Tg))), ((pa 5), .inl (ct 1, 21, .inr (.inl nh))), ((pa 1), .inl (ct 1, 21, .inr (.inl (fun j => if j < 21 then nh j else hd j)))), ((pa 6), .inl (ct 1, 21, .inr (.inl nf))), ((pa 2), .inl (ct 1, 21, .inr (.inl (fun j => if j < 21 then nf j else fl j)))), ((pa 7), .inl (ct 1, 21, .inr (.inl nc))), ((pa 3), .inl (ct 1, 21, .inr (.inl (fun j => if j < 21 then nc j else cv j))))] H → va_D A [((pa 0), .inr (2, [.int (nI (la + 1)), .int (nI im), .int (nI fr9), .int (nI lo9), .int (nI op9), .int (nI rs9), .ref (pa 1), .ref (pa 2), .ref (pa 3), .ref (pa 4), .ref (pa 5), .ref (pa 6), .ref (pa 7)])), ((pa 4), .inl (ct 1, 21, .inr (.inl Tg))), ((pa 5), .inl (ct 1, 21, .inr (.inl nh))), ((pa 1), .inl (ct 1, 21, .inr (.inl (fun j => if j < 21 then nh j else hd j)))), ((pa 6), .inl (ct 1, 21, .inr (.inl nf))), ((pa 2), .inl (ct 1, 21, .inr (.inl (fun j => if j < 21 then nf j else fl j)))), ((pa 7), .inl (ct 1, 21, .inr (.inl nc))), ((pa 3), .inl (ct 1, 21, .inr (.inl (fun j => if j < 21 then nc j else cv j))))] → va_S A s.heap H locs → lv_has ls 2 [(0, .ref (pa 0)), (1, .int (nI i))] → W p l e (rmW 2 0 0 85) s m args below meth c H locs (0) (0) (MQ below (QcW D [((pa 0), .inr (2, [.int (nI (la + 1)), .int (nI im), .int (nI fr9), .int (nI lo9), .int (nI op9), .int (nI rs9), .ref (pa 1), .ref (pa 2), .ref (pa 3), .ref (pa 4), .ref (pa 5), .ref (pa 6), .ref (pa 7)])), ((pa 1), .inl (ct 1, 21, .inr (.inl hd))), ((pa 2), .inl (ct 1, 21, .inr (.inl fl))), ((pa 3), .inl (ct 1, 21, .inr (.inl cv))), ((pa 4), .inl (ct 1, 21, .inr (.inl gt))), ((pa 5), .inl (ct 1, 21, .inr (.inl nh))), ((pa 6), .inl (ct 1, 21, .inr (.inl nf))), ((pa 7), .inl (ct 1, 21, .inr (.inl nc)))] sz (fun v W1 => ∃ (hd1 : Nat → Int64) (fl1 : Nat → Int64) (cv1 : Nat → Int64) (gt1 : Nat → Int64), v = none ∧ W1 = [((pa 0), .inr (2, [.int (nI (la + 1)), .int (nI im), .int (nI fr9), .int (nI lo9), .int (nI op9), .int (nI rs9), .ref (pa 1), .ref (pa 2), .ref (pa 3), .ref (pa 4), .ref (pa 5), .ref (pa 6), .ref (pa 7)])), ((pa 1), .inl (ct 1, 21, .inr (.inl hd1))), ((pa 2), .inl (ct 1, 21, .inr (.inl fl1))), ((pa 3), .inl (ct 1, 21, .inr (.inl cv1))), ((pa 4), .inl (ct 1, 21, .inr (.inl gt1))), ((pa 5), .inl (ct 1, 21, .inr (.inl nh))), ((pa 6), .inl (ct 1, 21, .inr (.inl nf))), ((pa 7), .inl (ct 1, 21, .inr (.inl nc)))] ∧ (∀ j, j ≤ la → hd1 j = nh j ∧ fl1 j = nf j ∧ cv1 j = nc j ∧ gt1 j = (if gt j < nh j then nh j else gt j)))) args s 0 0 A) (F0 m 35 ls []) := by
    intro n9
    induction n9 with
    | zero => intro i Tg hi hT hn9 H locs ls hP hD hS hl; exact absurd hn9 (Nat.not_lt_zero _)
    | succ n9 ih_35 =>
      intro i Tg hi hT hn9 H locs ls hP hD hS hl
      refine lv_iload_n hx hb d_Pipe_take_35 rfl (lv_at hl 1 rfl) ?_
      refine lv_aload_n hx hb d_Pipe_take_36 rfl (lv_at hl 0 rfl) ?_
      refine q_get 0 0 i_Pipe rfl hx hb hts hown hE hP rfl (by decide) x_175 rfl d_Pipe_take_37 ?_
      refine q_icmp_ge_n (a := i) (b := la + 1) (tgt := 70) hx hb d_Pipe_take_40 (by decide) rfl rfl (by omega) (by omega) (fun h_40 => ?_) (fun h_40 => ?_)
      · exact rW_v hx hb hr hlk hAe hS (hP.sub (ws' := [((pa 0), .inr (2, [.int (nI (la + 1)), .int (nI im), .int (nI fr9), .int (nI lo9), .int (nI op9), .int (nI rs9), .ref (pa 1), .ref (pa 2), .ref (pa 3), .ref (pa 4), .ref (pa 5), .ref (pa 6), .ref (pa 7)])), ((pa 1), .inl (ct 1, 21, .inr (.inl (fun j => if j < 21 then nh j else hd j)))), ((pa 2), .inl (ct 1, 21, .inr (.inl (fun j => if j < 21 then nf j else fl j)))), ((pa 3), .inl (ct 1, 21, .inr (.inl (fun j => if j < 21 then nc j else cv j)))), ((pa 4), .inl (ct 1, 21, .inr (.inl Tg))), ((pa 5), .inl (ct 1, 21, .inr (.inl nh))), ((pa 6), .inl (ct 1, 21, .inr (.inl nf))), ((pa 7), .inl (ct 1, 21, .inr (.inl nc)))]) [0, 3, 5, 7, 1, 2, 4, 6] rfl) (hD.sub (ws' := [((pa 0), .inr (2, [.int (nI (la + 1)), .int (nI im), .int (nI fr9), .int (nI lo9), .int (nI op9), .int (nI rs9), .ref (pa 1), .ref (pa 2), .ref (pa 3), .ref (pa 4), .ref (pa 5), .ref (pa 6), .ref (pa 7)])), ((pa 1), .inl (ct 1, 21, .inr (.inl (fun j => if j < 21 then nh j else hd j)))), ((pa 2), .inl (ct 1, 21, .inr (.inl (fun j => if j < 21 then nf j else fl j)))), ((pa 3), .inl (ct 1, 21, .inr (.inl (fun j => if j < 21 then nc j else cv j)))), ((pa 4), .inl (ct 1, 21, .inr (.inl Tg))), ((pa 5), .inl (ct 1, 21, .inr (.inl nh))), ((pa 6), .inl (ct 1, 21, .inr (.inl nf))), ((pa 7), .inl (ct 1, 21, .inr (.inl nc)))]) [0, 3, 5, 7, 1, 2, 4, 6] (by decide) rfl) (Nat.le_of_ble_eq_true rfl) (Nat.le_of_ble_eq_true rfl) d_Pipe_take_70 ⟨(fun j => if j < 21 then nh j else hd j), (fun j => if j < 21 then nf j else fl j), (fun j => if j < 21 then nc j else cv j), Tg, rfl, rfl, fun j hj => ⟨if_pos (by omega), if_pos (by omega), if_pos (by omega), hT.1 j (by omega)⟩⟩
      · refine lv_aload_n hx hb d_Pipe_take_43 rfl (lv_at hl 0 rfl) ?_
        refine q_get 0 9 i_Pipe rfl hx hb hts hown hE hP rfl (by decide) x_189 rfl d_Pipe_take_44 ?_
        refine lv_iload_n hx hb d_Pipe_take_47 rfl (lv_at hl 1 rfl) ?_
        refine lv_aload_n hx hb d_Pipe_take_48 rfl (lv_at hl 0 rfl) ?_
        refine q_get 0 9 i_Pipe rfl hx hb hts hown hE hP rfl (by decide) x_189 rfl d_Pipe_take_49 ?_
        refine lv_iload_n hx hb d_Pipe_take_52 rfl (lv_at hl 1 rfl) ?_
        refine q_lald (k := i) 1 hx hb hE hP rfl rfl (by omega) (by decide) d_Pipe_take_53 ?_
        refine lv_aload_n hx hb d_Pipe_take_54 rfl (lv_at hl 0 rfl) ?_
        refine q_get 0 6 i_Pipe rfl hx hb hts hown hE hP rfl (by decide) x_186 rfl d_Pipe_take_55 ?_
        refine lv_iload_n hx hb d_Pipe_take_58 rfl (lv_at hl 1 rfl) ?_
        refine q_lald (k := i) 3 hx hb hE hP rfl rfl (by omega) (by decide) d_Pipe_take_59 ?_
        refine q_topl (v := (nh i)) (if_pos (by omega)) ?_
        refine va_mmax_long hx hb (by rw [hml]; exact hl.1.symm) hown (hts _ (List.mem_cons_of_mem _ x_787)) (hts _ (List.mem_cons_of_mem _ x_524)) (hts _ (List.mem_cons_of_mem _ x_13)) (hts _ (List.mem_cons_of_mem _ x_525)) (Nat.le_of_ble_eq_true rfl) (Nat.le_of_ble_eq_true rfl) (Nat.le_of_ble_eq_true rfl) (Nat.le_of_ble_eq_true rfl) d_Pipe_take_60 ?_
        refine q_topl (v := (mxL (Tg i) (nh i))) rfl ?_
        obtain ⟨gt_1, egt_1⟩ : ∃ g9 : Nat → Int64, g9 = vp_updL Tg i (mxL (Tg i) (nh i)) := ⟨_, rfl⟩
        refine q_last (k := i) 1 (ws1 := [((pa 0), .inr (2, [.int (nI (la + 1)), .int (nI im), .int (nI fr9), .int (nI lo9), .int (nI op9), .int (nI rs9), .ref (pa 1), .ref (pa 2), .ref (pa 3), .ref (pa 4), .ref (pa 5), .ref (pa 6), .ref (pa 7)])), ((pa 4), .inl (ct 1, 21, .inr (.inl gt_1))), ((pa 5), .inl (ct 1, 21, .inr (.inl nh))), ((pa 1), .inl (ct 1, 21, .inr (.inl (fun j => if j < 21 then nh j else hd j)))), ((pa 6), .inl (ct 1, 21, .inr (.inl nf))), ((pa 2), .inl (ct 1, 21, .inr (.inl (fun j => if j < 21 then nf j else fl j)))), ((pa 7), .inl (ct 1, 21, .inr (.inl nc))), ((pa 3), .inl (ct 1, 21, .inr (.inl (fun j => if j < 21 then nc j else cv j))))]) egt_1 hx hb hE hP hD hS rfl rfl (by omega) (by decide) rfl d_Pipe_take_63 (fun H locs hP hD hS => ?_)
        refine lv_iinc (v := (nI (i + 1))) (lv' := [(1, .int (nI (i + 1))), (0, .ref (pa 0))]) hx hb d_Pipe_take_64 hl (k := 1) rfl (nI_1 _) (by decide) rfl (fun ls hl => ?_)
        refine lv_goto (tgt := 35) hx hb d_Pipe_take_67 (by decide) ?_
        exact ih_35 (i + 1) gt_1 (by omega) (gt_step (h := nh) hT egt_1) (by omega) _ _ _ hP hD hS (lv_sub hl [1, 0] rfl)
  exact loop_35 _ 0 gt (by omega) (⟨fun j hj => absurd hj (Nat.not_lt_zero _), fun _ _ => rfl⟩) (Nat.lt_succ_self _) _ _ _ hP hD hS (lv_sub hl [1, 0] rfl)
set_option maxHeartbeats 4000000 in
set_option maxRecDepth 100000 in
theorem c_Pipe_isTicked (l : Launch) (D : va_G) (ct : Nat → ClassId) (st : Nat → Nat) (pa : Nat → Nat) (la : Nat) (im : Nat) (fr9 : Nat) (lo9 : Nat) (op9 : Nat) (rs9 : Nat) (hd : Nat → Int64) (fl : Nat → Int64) (cv : Nat → Int64) (gt : Nat → Int64) (nh : Nat → Int64) (nf : Nat → Int64) (nc : Nat → Int64) (hw : PW la im fr9 lo9 op9 rs9 hd fl) (sz : Nat) : Met l y_Pipe_isTicked (wsy y_Pipe_isTicked b_Pipe_isTicked 2 (some .boolean)) (rmW 4 0 0 106) (PcW D ct st [.ref (pa 0)] [((pa 0), .inr (2, [.int (nI (la + 1)), .int (nI im), .int (nI fr9), .int (nI lo9), .int (nI op9), .int (nI rs9), .ref (pa 1), .ref (pa 2), .ref (pa 3), .ref (pa 4), .ref (pa 5), .ref (pa 6), .ref (pa 7)])), ((pa 1), .inl (ct 1, 21, .inr (.inl hd))), ((pa 2), .inl (ct 1, 21, .inr (.inl fl))), ((pa 3), .inl (ct 1, 21, .inr (.inl cv))), ((pa 4), .inl (ct 1, 21, .inr (.inl gt))), ((pa 5), .inl (ct 1, 21, .inr (.inl nh))), ((pa 6), .inl (ct 1, 21, .inr (.inl nf))), ((pa 7), .inl (ct 1, 21, .inr (.inl nc)))] sz) (QcW D [((pa 0), .inr (2, [.int (nI (la + 1)), .int (nI im), .int (nI fr9), .int (nI lo9), .int (nI op9), .int (nI rs9), .ref (pa 1), .ref (pa 2), .ref (pa 3), .ref (pa 4), .ref (pa 5), .ref (pa 6), .ref (pa 7)])), ((pa 1), .inl (ct 1, 21, .inr (.inl hd))), ((pa 2), .inl (ct 1, 21, .inr (.inl fl))), ((pa 3), .inl (ct 1, 21, .inr (.inl cv))), ((pa 4), .inl (ct 1, 21, .inr (.inl gt))), ((pa 5), .inl (ct 1, 21, .inr (.inl nh))), ((pa 6), .inl (ct 1, 21, .inr (.inl nf))), ((pa 7), .inl (ct 1, 21, .inr (.inl nc)))] sz (fun v W1 => ∃ (hd1 : Nat → Int64) (fl1 : Nat → Int64) (cv1 : Nat → Int64) (gt1 : Nat → Int64) (nh1 : Nat → Int64) (nf1 : Nat → Int64) (nc1 : Nat → Int64), v = some (.int (bI (p_ok hd fl cv (lN im) (lN fr9) (lN lo9) (lN rs9) (lN op9) la))) ∧ W1 = [((pa 0), .inr (2, [.int (nI (la + 1)), .int (nI im), .int (nI fr9), .int (nI lo9), .int (nI op9), .int (nI rs9), .ref (pa 1), .ref (pa 2), .ref (pa 3), .ref (pa 4), .ref (pa 5), .ref (pa 6), .ref (pa 7)])), ((pa 1), .inl (ct 1, 21, .inr (.inl hd1))), ((pa 2), .inl (ct 1, 21, .inr (.inl fl1))), ((pa 3), .inl (ct 1, 21, .inr (.inl cv1))), ((pa 4), .inl (ct 1, 21, .inr (.inl gt1))), ((pa 5), .inl (ct 1, 21, .inr (.inl nh1))), ((pa 6), .inl (ct 1, 21, .inr (.inl nf1))), ((pa 7), .inl (ct 1, 21, .inr (.inl nc1)))] ∧ ((p_ok hd fl cv (lN im) (lN fr9) (lN lo9) (lN rs9) (lN op9) la → CPS hd fl cv gt (lN im) (lN fr9) (lN lo9) (lN rs9) (lN op9) la hd1 fl1 cv1 gt1) ∧ (¬ p_ok hd fl cv (lN im) (lN fr9) (lN lo9) (lN rs9) (lN op9) la → hd1 = hd ∧ fl1 = fl ∧ cv1 = cv ∧ gt1 = gt)))) 0 0 (va_A [((pa 0), .inr (2, [.int (nI (la + 1)), .int (nI im), .int (nI fr9), .int (nI lo9), .int (nI op9), .int (nI rs9), .ref (pa 1), .ref (pa 2), .ref (pa 3), .ref (pa 4), .ref (pa 5), .ref (pa 6), .ref (pa 7)])), ((pa 1), .inl (ct 1, 21, .inr (.inl hd))), ((pa 2), .inl (ct 1, 21, .inr (.inl fl))), ((pa 3), .inl (ct 1, 21, .inr (.inl cv))), ((pa 4), .inl (ct 1, 21, .inr (.inl gt))), ((pa 5), .inl (ct 1, 21, .inr (.inl nh))), ((pa 6), .inl (ct 1, 21, .inr (.inl nf))), ((pa 7), .inl (ct 1, 21, .inr (.inl nc)))] sz) := by
  refine enterW (by decide) (Nat.le_of_ble_eq_true rfl) ?_
  intro p e s m args below meth c ls A hx hb hr hml hown hts hlk hin hsz hAe hP hD hA hE hV hS hl
  have hl : lv_has ls 2 [(0, .ref (pa 0))] := hl
  have hla := hw.1
  have him := hw.2.1
  have hlo := hw.2.2.2.1
  have hop := hw.2.2.2.2.1
  have hrs := hw.2.2.2.2.2.1
  have hfr := hw.2.2.1
  refine lv_aload_n hx hb d_Pipe_isTicked_0 rfl (lv_at hl 0 rfl) ?_
  refine cWV (As := []) (rest := []) (q9 := 0) (ci := 2) K_Pipe_findReservoir x_743 hx hb hml hown hts hE hV hS (c_Pipe_findReservoir l D ct st pa la im fr9 lo9 op9 rs9 hd fl cv gt nh nf nc (hw) _) hP hD hA [0, 1, 2, 3, 4, 5, 6, 7] [] (wr := []) rfl rfl (by decide) (by decide) (by decide) rfl hP rfl rfl hl.1 rfl (Nat.le_of_ble_eq_true rfl) d_Pipe_isTicked_1 (Nat.le_of_ble_eq_true rfl) (Nat.le_of_ble_eq_true rfl) ⟨Nat.le_of_ble_eq_true rfl, Nat.le_of_ble_eq_true rfl⟩ (fun v W1 H locs hpost hP hD hS => ?_)
  obtain ⟨nh1_1, nf1_1, nc1_1, rfl, rfl, hq_1⟩ := hpost
  have hP : va_P D classes [((pa 0), .inr (2, [.int (nI (la + 1)), .int (nI im), .int (nI fr9), .int (nI lo9), .int (nI op9), .int (nI rs9), .ref (pa 1), .ref (pa 2), .ref (pa 3), .ref (pa 4), .ref (pa 5), .ref (pa 6), .ref (pa 7)])), ((pa 1), .inl (ct 1, 21, .inr (.inl hd))), ((pa 2), .inl (ct 1, 21, .inr (.inl fl))), ((pa 3), .inl (ct 1, 21, .inr (.inl cv))), ((pa 4), .inl (ct 1, 21, .inr (.inl gt))), ((pa 5), .inl (ct 1, 21, .inr (.inl nh1_1))), ((pa 6), .inl (ct 1, 21, .inr (.inl nf1_1))), ((pa 7), .inl (ct 1, 21, .inr (.inl nc1_1)))] H := hP
  have hD : va_D A [((pa 0), .inr (2, [.int (nI (la + 1)), .int (nI im), .int (nI fr9), .int (nI lo9), .int (nI op9), .int (nI rs9), .ref (pa 1), .ref (pa 2), .ref (pa 3), .ref (pa 4), .ref (pa 5), .ref (pa 6), .ref (pa 7)])), ((pa 1), .inl (ct 1, 21, .inr (.inl hd))), ((pa 2), .inl (ct 1, 21, .inr (.inl fl))), ((pa 3), .inl (ct 1, 21, .inr (.inl cv))), ((pa 4), .inl (ct 1, 21, .inr (.inl gt))), ((pa 5), .inl (ct 1, 21, .inr (.inl nh1_1))), ((pa 6), .inl (ct 1, 21, .inr (.inl nf1_1))), ((pa 7), .inl (ct 1, 21, .inr (.inl nc1_1)))] := hD
  refine lv_iconst (v := 1) hx hb d_Pipe_isTicked_4 (by decide) ?_
  refine lv_istore_n (lv' := [(1, .int 1), (0, .ref (pa 0))]) hx hb d_Pipe_isTicked_5 rfl hl (by decide) rfl (fun ls hl => ?_)
  have loop_6 : ∀ (n9 : Nat) (k : Nat) (Ta : Nat → Int64) (Tb : Nat → Int64) (Tc : Nat → Int64) (hk : 1 ≤ k ∧ k ≤ la) (hR : NodR hd fl cv (lN im) (lN fr9) (lN lo9) (lN rs9) (lN op9) la Ta Tb Tc k) (hn9 : la - k < n9) (H : Heap) (locs : List Loc) (ls : Array Slot), va_P D classes [((pa 0), .inr (2, [.int (nI (la + 1)), .int (nI im), .int (nI fr9), .int (nI lo9), .int (nI op9), .int (nI rs9), .ref (pa 1), .ref (pa 2), .ref (pa 3), .ref (pa 4), .ref (pa 5), .ref (pa 6), .ref (pa 7)])), ((pa 1), .inl (ct 1, 21, .inr (.inl hd))), ((pa 2), .inl (ct 1, 21, .inr (.inl fl))), ((pa 3), .inl (ct 1, 21, .inr (.inl cv))), ((pa 4), .inl (ct 1, 21, .inr (.inl gt))), ((pa 5), .inl (ct 1, 21, .inr (.inl Ta))), ((pa 6), .inl (ct 1, 21, .inr (.inl Tb))), ((pa 7), .inl (ct 1, 21, .inr (.inl Tc)))] H → va_D A [((pa 0), .inr (2, [.int (nI (la + 1)), .int (nI im), .int (nI fr9), .int (nI lo9), .int (nI op9), .int (nI rs9), .ref (pa 1), .ref (pa 2), .ref (pa 3), .ref (pa 4), .ref (pa 5), .ref (pa 6), .ref (pa 7)])), ((pa 1), .inl (ct 1, 21, .inr (.inl hd))), ((pa 2), .inl (ct 1, 21, .inr (.inl fl))), ((pa 3), .inl (ct 1, 21, .inr (.inl cv))), ((pa 4), .inl (ct 1, 21, .inr (.inl gt))), ((pa 5), .inl (ct 1, 21, .inr (.inl Ta))), ((pa 6), .inl (ct 1, 21, .inr (.inl Tb))), ((pa 7), .inl (ct 1, 21, .inr (.inl Tc)))] → va_S A s.heap H locs → lv_has ls 2 [(0, .ref (pa 0)), (1, .int (nI k))] → W p l e (rmW 4 0 0 106) s m args below meth c H locs (0) (0) (MQ below (QcW D [((pa 0), .inr (2, [.int (nI (la + 1)), .int (nI im), .int (nI fr9), .int (nI lo9), .int (nI op9), .int (nI rs9), .ref (pa 1), .ref (pa 2), .ref (pa 3), .ref (pa 4), .ref (pa 5), .ref (pa 6), .ref (pa 7)])), ((pa 1), .inl (ct 1, 21, .inr (.inl hd))), ((pa 2), .inl (ct 1, 21, .inr (.inl fl))), ((pa 3), .inl (ct 1, 21, .inr (.inl cv))), ((pa 4), .inl (ct 1, 21, .inr (.inl gt))), ((pa 5), .inl (ct 1, 21, .inr (.inl nh))), ((pa 6), .inl (ct 1, 21, .inr (.inl nf))), ((pa 7), .inl (ct 1, 21, .inr (.inl nc)))] sz (fun v W1 => ∃ (hd1 : Nat → Int64) (fl1 : Nat → Int64) (cv1 : Nat → Int64) (gt1 : Nat → Int64) (nh1 : Nat → Int64) (nf1 : Nat → Int64) (nc1 : Nat → Int64), v = some (.int (bI (p_ok hd fl cv (lN im) (lN fr9) (lN lo9) (lN rs9) (lN op9) la))) ∧ W1 = [((pa 0), .inr (2, [.int (nI (la + 1)), .int (nI im), .int (nI fr9), .int (nI lo9), .int (nI op9), .int (nI rs9), .ref (pa 1), .ref (pa 2), .ref (pa 3), .ref (pa 4), .ref (pa 5), .ref (pa 6), .ref (pa 7)])), ((pa 1), .inl (ct 1, 21, .inr (.inl hd1))), ((pa 2), .inl (ct 1, 21, .inr (.inl fl1))), ((pa 3), .inl (ct 1, 21, .inr (.inl cv1))), ((pa 4), .inl (ct 1, 21, .inr (.inl gt1))), ((pa 5), .inl (ct 1, 21, .inr (.inl nh1))), ((pa 6), .inl (ct 1, 21, .inr (.inl nf1))), ((pa 7), .inl (ct 1, 21, .inr (.inl nc1)))] ∧ ((p_ok hd fl cv (lN im) (lN fr9) (lN lo9) (lN rs9) (lN op9) la → CPS hd fl cv gt (lN im) (lN fr9) (lN lo9) (lN rs9) (lN op9) la hd1 fl1 cv1 gt1) ∧ (¬ p_ok hd fl cv (lN im) (lN fr9) (lN lo9) (lN rs9) (lN op9) la → hd1 = hd ∧ fl1 = fl ∧ cv1 = cv ∧ gt1 = gt)))) args s 0 0 A) (F0 m 6 ls []) := by
    intro n9
    induction n9 with
    | zero => intro k Ta Tb Tc hk hR hn9 H locs ls hP hD hS hl; exact absurd hn9 (Nat.not_lt_zero _)
    | succ n9 ih_6 =>
      intro k Ta Tb Tc hk hR hn9 H locs ls hP hD hS hl
      refine lv_iload_n hx hb d_Pipe_isTicked_6 rfl (lv_at hl 1 rfl) ?_
      refine lv_aload_n hx hb d_Pipe_isTicked_7 rfl (lv_at hl 0 rfl) ?_
      refine q_get 0 0 i_Pipe rfl hx hb hts hown hE hP rfl (by decide) x_175 rfl d_Pipe_isTicked_8 ?_
      refine lv_iconst (v := 1) hx hb d_Pipe_isTicked_11 (by decide) ?_
      refine q_isub (v := nI ((la + 1) - 1)) hx hb d_Pipe_isTicked_12 (pk_sub (a := la + 1) (b := 1) (by omega)) ?_
      refine q_topi (v := nI la) (congrArg nI (by omega)) ?_
      refine q_icmp_ge_n (a := k) (b := la) (tgt := 27) hx hb d_Pipe_isTicked_13 (by decide) rfl rfl (by omega) (by omega) (fun h_13 => ?_) (fun h_13 => ?_)
      · refine lv_aload_n hx hb d_Pipe_isTicked_27 rfl (lv_at hl 0 rfl) ?_
        refine cWV (As := []) (rest := []) (q9 := 0) (ci := 2) K_Pipe_findValve x_772 hx hb hml hown hts hE hV hS (c_Pipe_findValve l D ct st pa la im fr9 lo9 op9 rs9 hd fl cv gt Ta Tb Tc (hw) _) hP hD hA [0, 1, 2, 3, 4, 5, 6, 7] [] (wr := []) rfl rfl (by decide) (by decide) (by decide) rfl hP rfl rfl hl.1 rfl (Nat.le_of_ble_eq_true rfl) d_Pipe_isTicked_28 (Nat.le_of_ble_eq_true rfl) (Nat.le_of_ble_eq_true rfl) ⟨Nat.le_of_ble_eq_true rfl, Nat.le_of_ble_eq_true rfl⟩ (fun v W1 H locs hpost hP hD hS => ?_)
        obtain ⟨nh1_2, nf1_2, nc1_2, rfl, rfl, hq_28⟩ := hpost
        have hP : va_P D classes [((pa 0), .inr (2, [.int (nI (la + 1)), .int (nI im), .int (nI fr9), .int (nI lo9), .int (nI op9), .int (nI rs9), .ref (pa 1), .ref (pa 2), .ref (pa 3), .ref (pa 4), .ref (pa 5), .ref (pa 6), .ref (pa 7)])), ((pa 1), .inl (ct 1, 21, .inr (.inl hd))), ((pa 2), .inl (ct 1, 21, .inr (.inl fl))), ((pa 3), .inl (ct 1, 21, .inr (.inl cv))), ((pa 4), .inl (ct 1, 21, .inr (.inl gt))), ((pa 5), .inl (ct 1, 21, .inr (.inl nh1_2))), ((pa 6), .inl (ct 1, 21, .inr (.inl nf1_2))), ((pa 7), .inl (ct 1, 21, .inr (.inl nc1_2)))] H := hP
        have hD : va_D A [((pa 0), .inr (2, [.int (nI (la + 1)), .int (nI im), .int (nI fr9), .int (nI lo9), .int (nI op9), .int (nI rs9), .ref (pa 1), .ref (pa 2), .ref (pa 3), .ref (pa 4), .ref (pa 5), .ref (pa 6), .ref (pa 7)])), ((pa 1), .inl (ct 1, 21, .inr (.inl hd))), ((pa 2), .inl (ct 1, 21, .inr (.inl fl))), ((pa 3), .inl (ct 1, 21, .inr (.inl cv))), ((pa 4), .inl (ct 1, 21, .inr (.inl gt))), ((pa 5), .inl (ct 1, 21, .inr (.inl nh1_2))), ((pa 6), .inl (ct 1, 21, .inr (.inl nf1_2))), ((pa 7), .inl (ct 1, 21, .inr (.inl nc1_2)))] := hD
        have hN := nod_step (by rw [show k = la by omega] at hR; exact hR) hq_28
        refine lv_iconst (v := 0) hx hb d_Pipe_isTicked_31 (by decide) ?_
        refine lv_istore_n (lv' := [(1, .int 0), (0, .ref (pa 0))]) hx hb d_Pipe_isTicked_32 rfl hl (by decide) rfl (fun ls hl => ?_)
        have loop_33 : ∀ (n9 : Nat) (i : Nat) (hi : i ≤ la + 1) (hAA : ∀ j, j < i → p_okn hd fl cv (lN im) (lN fr9) (lN lo9) (lN rs9) (lN op9) la j) (hn9 : la + 1 - i < n9) (H : Heap) (locs : List Loc) (ls : Array Slot), va_P D classes [((pa 0), .inr (2, [.int (nI (la + 1)), .int (nI im), .int (nI fr9), .int (nI lo9), .int (nI op9), .int (nI rs9), .ref (pa 1), .ref (pa 2), .ref (pa 3), .ref (pa 4), .ref (pa 5), .ref (pa 6), .ref (pa 7)])), ((pa 1), .inl (ct 1, 21, .inr (.inl hd))), ((pa 2), .inl (ct 1, 21, .inr (.inl fl))), ((pa 3), .inl (ct 1, 21, .inr (.inl cv))), ((pa 4), .inl (ct 1, 21, .inr (.inl gt))), ((pa 5), .inl (ct 1, 21, .inr (.inl nh1_2))), ((pa 6), .inl (ct 1, 21, .inr (.inl nf1_2))), ((pa 7), .inl (ct 1, 21, .inr (.inl nc1_2)))] H → va_D A [((pa 0), .inr (2, [.int (nI (la + 1)), .int (nI im), .int (nI fr9), .int (nI lo9), .int (nI op9), .int (nI rs9), .ref (pa 1), .ref (pa 2), .ref (pa 3), .ref (pa 4), .ref (pa 5), .ref (pa 6), .ref (pa 7)])), ((pa 1), .inl (ct 1, 21, .inr (.inl hd))), ((pa 2), .inl (ct 1, 21, .inr (.inl fl))), ((pa 3), .inl (ct 1, 21, .inr (.inl cv))), ((pa 4), .inl (ct 1, 21, .inr (.inl gt))), ((pa 5), .inl (ct 1, 21, .inr (.inl nh1_2))), ((pa 6), .inl (ct 1, 21, .inr (.inl nf1_2))), ((pa 7), .inl (ct 1, 21, .inr (.inl nc1_2)))] → va_S A s.heap H locs → lv_has ls 2 [(0, .ref (pa 0)), (1, .int (nI i))] → W p l e (rmW 4 0 0 106) s m args below meth c H locs (0) (0) (MQ below (QcW D [((pa 0), .inr (2, [.int (nI (la + 1)), .int (nI im), .int (nI fr9), .int (nI lo9), .int (nI op9), .int (nI rs9), .ref (pa 1), .ref (pa 2), .ref (pa 3), .ref (pa 4), .ref (pa 5), .ref (pa 6), .ref (pa 7)])), ((pa 1), .inl (ct 1, 21, .inr (.inl hd))), ((pa 2), .inl (ct 1, 21, .inr (.inl fl))), ((pa 3), .inl (ct 1, 21, .inr (.inl cv))), ((pa 4), .inl (ct 1, 21, .inr (.inl gt))), ((pa 5), .inl (ct 1, 21, .inr (.inl nh))), ((pa 6), .inl (ct 1, 21, .inr (.inl nf))), ((pa 7), .inl (ct 1, 21, .inr (.inl nc)))] sz (fun v W1 => ∃ (hd1 : Nat → Int64) (fl1 : Nat → Int64) (cv1 : Nat → Int64) (gt1 : Nat → Int64) (nh1 : Nat → Int64) (nf1 : Nat → Int64) (nc1 : Nat → Int64), v = some (.int (bI (p_ok hd fl cv (lN im) (lN fr9) (lN lo9) (lN rs9) (lN op9) la))) ∧ W1 = [((pa 0), .inr (2, [.int (nI (la + 1)), .int (nI im), .int (nI fr9), .int (nI lo9), .int (nI op9), .int (nI rs9), .ref (pa 1), .ref (pa 2), .ref (pa 3), .ref (pa 4), .ref (pa 5), .ref (pa 6), .ref (pa 7)])), ((pa 1), .inl (ct 1, 21, .inr (.inl hd1))), ((pa 2), .inl (ct 1, 21, .inr (.inl fl1))), ((pa 3), .inl (ct 1, 21, .inr (.inl cv1))), ((pa 4), .inl (ct 1, 21, .inr (.inl gt1))), ((pa 5), .inl (ct 1, 21, .inr (.inl nh1))), ((pa 6), .inl (ct 1, 21, .inr (.inl nf1))), ((pa 7), .inl (ct 1, 21, .inr (.inl nc1)))] ∧ ((p_ok hd fl cv (lN im) (lN fr9) (lN lo9) (lN rs9) (lN op9) la → CPS hd fl cv gt (lN im) (lN fr9) (lN lo9) (lN rs9) (lN op9) la hd1 fl1 cv1 gt1) ∧ (¬ p_ok hd fl cv (lN im) (lN fr9) (lN lo9) (lN rs9) (lN op9) la → hd1 = hd ∧ fl1 = fl ∧ cv1 = cv ∧ gt1 = gt)))) args s 0 0 A) (F0 m 33 ls []) := by
          intro n9
          induction n9 with
          | zero => intro i hi hAA hn9 H locs ls hP hD hS hl; exact absurd hn9 (Nat.not_lt_zero _)
          | succ n9 ih_33 =>
            intro i hi hAA hn9 H locs ls hP hD hS hl
            refine lv_iload_n hx hb d_Pipe_isTicked_33 rfl (lv_at hl 1 rfl) ?_
            refine lv_aload_n hx hb d_Pipe_isTicked_34 rfl (lv_at hl 0 rfl) ?_
            refine q_get 0 0 i_Pipe rfl hx hb hts hown hE hP rfl (by decide) x_175 rfl d_Pipe_isTicked_35 ?_
            refine q_icmp_ge_n (a := i) (b := la + 1) (tgt := 57) hx hb d_Pipe_isTicked_38 (by decide) rfl rfl (by omega) (by omega) (fun h_38 => ?_) (fun h_38 => ?_)
            · refine lv_aload_n hx hb d_Pipe_isTicked_57 rfl (lv_at hl 0 rfl) ?_
              refine cWV (As := []) (rest := []) (q9 := 0) (ci := 2) K_Pipe_take x_782 hx hb hml hown hts hE hV hS (c_Pipe_take l D ct st pa la im fr9 lo9 op9 rs9 hd fl cv gt nh1_2 nf1_2 nc1_2 (by omega) _) hP hD hA [0, 1, 2, 3, 4, 5, 6, 7] [] (wr := []) rfl rfl (by decide) (by decide) (by decide) rfl hP rfl rfl hl.1 rfl (Nat.le_of_ble_eq_true rfl) d_Pipe_isTicked_58 (Nat.le_of_ble_eq_true rfl) (Nat.le_of_ble_eq_true rfl) ⟨Nat.le_of_ble_eq_true rfl, Nat.le_of_ble_eq_true rfl⟩ (fun v W1 H locs hpost hP hD hS => ?_)
              obtain ⟨hd1_1, fl1_1, cv1_1, gt1_1, rfl, rfl, hq_58⟩ := hpost
              have hP : va_P D classes [((pa 0), .inr (2, [.int (nI (la + 1)), .int (nI im), .int (nI fr9), .int (nI lo9), .int (nI op9), .int (nI rs9), .ref (pa 1), .ref (pa 2), .ref (pa 3), .ref (pa 4), .ref (pa 5), .ref (pa 6), .ref (pa 7)])), ((pa 1), .inl (ct 1, 21, .inr (.inl hd1_1))), ((pa 2), .inl (ct 1, 21, .inr (.inl fl1_1))), ((pa 3), .inl (ct 1, 21, .inr (.inl cv1_1))), ((pa 4), .inl (ct 1, 21, .inr (.inl gt1_1))), ((pa 5), .inl (ct 1, 21, .inr (.inl nh1_2))), ((pa 6), .inl (ct 1, 21, .inr (.inl nf1_2))), ((pa 7), .inl (ct 1, 21, .inr (.inl nc1_2)))] H := hP
              have hD : va_D A [((pa 0), .inr (2, [.int (nI (la + 1)), .int (nI im), .int (nI fr9), .int (nI lo9), .int (nI op9), .int (nI rs9), .ref (pa 1), .ref (pa 2), .ref (pa 3), .ref (pa 4), .ref (pa 5), .ref (pa 6), .ref (pa 7)])), ((pa 1), .inl (ct 1, 21, .inr (.inl hd1_1))), ((pa 2), .inl (ct 1, 21, .inr (.inl fl1_1))), ((pa 3), .inl (ct 1, 21, .inr (.inl cv1_1))), ((pa 4), .inl (ct 1, 21, .inr (.inl gt1_1))), ((pa 5), .inl (ct 1, 21, .inr (.inl nh1_2))), ((pa 6), .inl (ct 1, 21, .inr (.inl nf1_2))), ((pa 7), .inl (ct 1, 21, .inr (.inl nc1_2)))] := hD
              refine lv_iconst (v := 1) hx hb d_Pipe_isTicked_61 (by decide) ?_
              exact rW_z (P := p_ok hd fl cv (lN im) (lN fr9) (lN lo9) (lN rs9) (lN op9) la) hx hb hr hlk hAe hS hP hD (Nat.le_of_ble_eq_true rfl) (Nat.le_of_ble_eq_true rfl) d_Pipe_isTicked_62 (bI_1 (fun j hj => hAA j (by omega))) ⟨hd1_1, fl1_1, cv1_1, gt1_1, nh1_2, nf1_2, nc1_2, rfl, rfl, ⟨fun _ => fun j hj => by obtain ⟨q1, q2, q3, q4⟩ := hq_58 j hj; obtain ⟨r1, r2, r3⟩ := hN j (by omega); exact ⟨q1.trans r1, q2.trans r2, q3.trans r3, by rw [← r1]; exact q4⟩, fun z => absurd (fun j hj => hAA j (by omega)) z⟩⟩
            · refine lv_aload_n hx hb d_Pipe_isTicked_41 rfl (lv_at hl 0 rfl) ?_
              refine lv_iload_n hx hb d_Pipe_isTicked_42 rfl (lv_at hl 1 rfl) ?_
              refine cRV (As := [.int (nI i)]) (rest := []) (q9 := 0) (ci := 2) K_Pipe_isAllowed x_776 hx hb hml hown hts hE hV hS (c_Pipe_isAllowed l D ct st pa la im fr9 lo9 op9 rs9 hd fl cv gt nh1_2 nf1_2 nc1_2 i (by omega) (by rw [(hN i (by omega)).1]; have := (hw.nh (cv := cv) (k := i) (by omega)).1; omega) (by rw [(hN i (by omega)).2.1]; have := (hw.nf (cv := cv) (k := i) (by omega)).1; omega)) hP rfl hP rfl rfl hl.1 rfl (Nat.le_of_ble_eq_true rfl) d_Pipe_isTicked_43 (Nat.le_of_ble_eq_true rfl) (Nat.le_of_ble_eq_true rfl) ⟨Nat.le_of_ble_eq_true rfl, Nat.le_of_ble_eq_true rfl⟩ ?_
              refine q_topi (v := bI (p_okn hd fl cv (lN im) (lN fr9) (lN lo9) (lN rs9) (lN op9) la i)) (by rw [(hN i (by omega)).1, (hN i (by omega)).2.1]; rfl) ?_
              refine q_ifne_b (tgt := 51) hx hb d_Pipe_isTicked_46 (by decide) (fun h_46 => ?_) (fun h_46 => ?_)
              · refine lv_iinc (v := (nI (i + 1))) (lv' := [(1, .int (nI (i + 1))), (0, .ref (pa 0))]) hx hb d_Pipe_isTicked_51 hl (k := 1) rfl (nI_1 _) (by decide) rfl (fun ls hl => ?_)
                refine lv_goto (tgt := 33) hx hb d_Pipe_isTicked_54 (by decide) ?_
                exact ih_33 (i + 1) (by omega) (all_s hAA h_46) (by omega) _ _ _ hP hD hS (lv_sub hl [1, 0] rfl)
              · refine lv_iconst (v := 0) hx hb d_Pipe_isTicked_49 (by decide) ?_
                exact rW_z (P := p_ok hd fl cv (lN im) (lN fr9) (lN lo9) (lN rs9) (lN op9) la) hx hb hr hlk hAe hS hP hD (Nat.le_of_ble_eq_true rfl) (Nat.le_of_ble_eq_true rfl) d_Pipe_isTicked_50 (bI_0 (fun z => h_46 (z i (by omega)))) ⟨hd, fl, cv, gt, nh1_2, nf1_2, nc1_2, rfl, rfl, ⟨fun z => absurd (z i (by omega)) h_46, fun _ => ⟨rfl, rfl, rfl, rfl⟩⟩⟩
        exact loop_33 _ 0 (by omega) (fun j hj => absurd hj (Nat.not_lt_zero _)) (Nat.lt_succ_self _) _ _ _ hP hD hS (lv_sub hl [1, 0] rfl)
      · refine lv_aload_n hx hb d_Pipe_isTicked_16 rfl (lv_at hl 0 rfl) ?_
        refine lv_iload_n hx hb d_Pipe_isTicked_17 rfl (lv_at hl 1 rfl) ?_
        refine cWV (As := [.int (nI k)]) (rest := []) (q9 := 0) (ci := 2) K_Pipe_findBetween x_757 hx hb hml hown hts hE hV hS (c_Pipe_findBetween l D ct st pa la im fr9 lo9 op9 rs9 hd fl cv gt Ta Tb Tc k (hw) (by omega) _) hP hD hA [0, 1, 2, 3, 4, 5, 6, 7] [] (wr := []) rfl rfl (by decide) (by decide) (by decide) rfl hP rfl rfl hl.1 rfl (Nat.le_of_ble_eq_true rfl) d_Pipe_isTicked_18 (Nat.le_of_ble_eq_true rfl) (Nat.le_of_ble_eq_true rfl) ⟨Nat.le_of_ble_eq_true rfl, Nat.le_of_ble_eq_true rfl⟩ (fun v W1 H locs hpost hP hD hS => ?_)
        obtain ⟨nh1_3, nf1_3, nc1_3, rfl, rfl, hq_18⟩ := hpost
        have hP : va_P D classes [((pa 0), .inr (2, [.int (nI (la + 1)), .int (nI im), .int (nI fr9), .int (nI lo9), .int (nI op9), .int (nI rs9), .ref (pa 1), .ref (pa 2), .ref (pa 3), .ref (pa 4), .ref (pa 5), .ref (pa 6), .ref (pa 7)])), ((pa 1), .inl (ct 1, 21, .inr (.inl hd))), ((pa 2), .inl (ct 1, 21, .inr (.inl fl))), ((pa 3), .inl (ct 1, 21, .inr (.inl cv))), ((pa 4), .inl (ct 1, 21, .inr (.inl gt))), ((pa 5), .inl (ct 1, 21, .inr (.inl nh1_3))), ((pa 6), .inl (ct 1, 21, .inr (.inl nf1_3))), ((pa 7), .inl (ct 1, 21, .inr (.inl nc1_3)))] H := hP
        have hD : va_D A [((pa 0), .inr (2, [.int (nI (la + 1)), .int (nI im), .int (nI fr9), .int (nI lo9), .int (nI op9), .int (nI rs9), .ref (pa 1), .ref (pa 2), .ref (pa 3), .ref (pa 4), .ref (pa 5), .ref (pa 6), .ref (pa 7)])), ((pa 1), .inl (ct 1, 21, .inr (.inl hd))), ((pa 2), .inl (ct 1, 21, .inr (.inl fl))), ((pa 3), .inl (ct 1, 21, .inr (.inl cv))), ((pa 4), .inl (ct 1, 21, .inr (.inl gt))), ((pa 5), .inl (ct 1, 21, .inr (.inl nh1_3))), ((pa 6), .inl (ct 1, 21, .inr (.inl nf1_3))), ((pa 7), .inl (ct 1, 21, .inr (.inl nc1_3)))] := hD
        refine lv_iinc (v := (nI (k + 1))) (lv' := [(1, .int (nI (k + 1))), (0, .ref (pa 0))]) hx hb d_Pipe_isTicked_21 hl (k := 1) rfl (nI_1 _) (by decide) rfl (fun ls hl => ?_)
        refine lv_goto (tgt := 6) hx hb d_Pipe_isTicked_24 (by decide) ?_
        exact ih_6 (k + 1) nh1_3 nf1_3 nc1_3 (by omega) (nod_step hR hq_18) (by omega) _ _ _ hP hD hS (lv_sub hl [1, 0] rfl)
  exact loop_6 _ 1 nh1_1 nf1_1 nc1_1 (by omega) (nod_step (fun k hk => absurd hk (Nat.not_lt_zero _)) hq_1) (Nat.lt_succ_self _) _ _ _ hP hD hS (lv_sub hl [1, 0] rfl)
set_option maxHeartbeats 4000000 in
set_option maxRecDepth 100000 in
theorem c_Pipe_begin (l : Launch) (D : va_G) (ct : Nat → ClassId) (st : Nat → Nat) (pa : Nat → Nat) (nd : Nat) (im : Nat) (fr9 : Nat) (lo9 : Nat) (op9 : Nat) (rs9 : Nat) (hd : Nat → Int64) (fl : Nat → Int64) (cv : Nat → Int64) (gt : Nat → Int64) (nh : Nat → Int64) (nf : Nat → Int64) (nc : Nat → Int64) (re9 : Nat) (nh9 : Nat) (nf9 : Int32) (hre : re9 ≤ 20) (hnh : nh9 ≤ 2000) (sz : Nat) : Met l y_Pipe_begin (wsy y_Pipe_begin b_Pipe_begin 5 (none)) (rmW 0 0 0 0) (PcW D ct st [.ref (pa 0), .int (nI re9), .int (nI nh9), .int nf9] [((pa 0), .inr (2, [.int (nI nd), .int (nI im), .int (nI fr9), .int (nI lo9), .int (nI op9), .int (nI rs9), .ref (pa 1), .ref (pa 2), .ref (pa 3), .ref (pa 4), .ref (pa 5), .ref (pa 6), .ref (pa 7)])), ((pa 1), .inl (ct 1, 21, .inr (.inl hd))), ((pa 2), .inl (ct 1, 21, .inr (.inl fl))), ((pa 3), .inl (ct 1, 21, .inr (.inl cv))), ((pa 4), .inl (ct 1, 21, .inr (.inl gt))), ((pa 5), .inl (ct 1, 21, .inr (.inl nh))), ((pa 6), .inl (ct 1, 21, .inr (.inl nf))), ((pa 7), .inl (ct 1, 21, .inr (.inl nc)))] sz) (QcW D [((pa 0), .inr (2, [.int (nI nd), .int (nI im), .int (nI fr9), .int (nI lo9), .int (nI op9), .int (nI rs9), .ref (pa 1), .ref (pa 2), .ref (pa 3), .ref (pa 4), .ref (pa 5), .ref (pa 6), .ref (pa 7)])), ((pa 1), .inl (ct 1, 21, .inr (.inl hd))), ((pa 2), .inl (ct 1, 21, .inr (.inl fl))), ((pa 3), .inl (ct 1, 21, .inr (.inl cv))), ((pa 4), .inl (ct 1, 21, .inr (.inl gt))), ((pa 5), .inl (ct 1, 21, .inr (.inl nh))), ((pa 6), .inl (ct 1, 21, .inr (.inl nf))), ((pa 7), .inl (ct 1, 21, .inr (.inl nc)))] sz (fun v W1 => ∃ (hd1 : Nat → Int64) (fl1 : Nat → Int64) (cv1 : Nat → Int64) (gt1 : Nat → Int64), v = none ∧ W1 = [((pa 0), .inr (2, [.int (nI (re9 + 1)), .int (nI im), .int (nI fr9), .int (nI lo9), .int 100, .int (nI nh9), .ref (pa 1), .ref (pa 2), .ref (pa 3), .ref (pa 4), .ref (pa 5), .ref (pa 6), .ref (pa 7)])), ((pa 1), .inl (ct 1, 21, .inr (.inl hd1))), ((pa 2), .inl (ct 1, 21, .inr (.inl fl1))), ((pa 3), .inl (ct 1, 21, .inr (.inl cv1))), ((pa 4), .inl (ct 1, 21, .inr (.inl gt1))), ((pa 5), .inl (ct 1, 21, .inr (.inl nh))), ((pa 6), .inl (ct 1, 21, .inr (.inl nf))), ((pa 7), .inl (ct 1, 21, .inr (.inl nc)))] ∧ (∀ j, j ≤ re9 → hd1 j = lN nh9 ∧ fl1 j = nf9.toInt64 ∧ cv1 j = 0 ∧ gt1 j = lN nh9))) 0 0 (va_A [((pa 0), .inr (2, [.int (nI nd), .int (nI im), .int (nI fr9), .int (nI lo9), .int (nI op9), .int (nI rs9), .ref (pa 1), .ref (pa 2), .ref (pa 3), .ref (pa 4), .ref (pa 5), .ref (pa 6), .ref (pa 7)])), ((pa 1), .inl (ct 1, 21, .inr (.inl hd))), ((pa 2), .inl (ct 1, 21, .inr (.inl fl))), ((pa 3), .inl (ct 1, 21, .inr (.inl cv))), ((pa 4), .inl (ct 1, 21, .inr (.inl gt))), ((pa 5), .inl (ct 1, 21, .inr (.inl nh))), ((pa 6), .inl (ct 1, 21, .inr (.inl nf))), ((pa 7), .inl (ct 1, 21, .inr (.inl nc)))] sz) := by
  refine enterW (by decide) (Nat.le_of_ble_eq_true rfl) ?_
  intro p e s m args below meth c ls A hx hb hr hml hown hts hlk hin hsz hAe hP hD hA hE hV hS hl
  have hl : lv_has ls 5 [(0, .ref (pa 0)), (1, .int (nI re9)), (2, .int (nI nh9)), (3, .int nf9)] := hl
  refine lv_aload_n hx hb d_Pipe_begin_0 rfl (lv_at hl 0 rfl) ?_
  refine lv_iload_n hx hb d_Pipe_begin_1 rfl (lv_at hl 1 rfl) ?_
  refine lv_iconst (v := 1) hx hb d_Pipe_begin_2 (by decide) ?_
  refine q_iadd (v := nI (re9 + 1)) hx hb d_Pipe_begin_3 (nI_add re9 1) ?_
  refine q_put (ty := .int) 0 0 (ws1 := [((pa 0), .inr (2, [.int (nI (re9 + 1)), .int (nI im), .int (nI fr9), .int (nI lo9), .int (nI op9), .int (nI rs9), .ref (pa 1), .ref (pa 2), .ref (pa 3), .ref (pa 4), .ref (pa 5), .ref (pa 6), .ref (pa 7)])), ((pa 1), .inl (ct 1, 21, .inr (.inl hd))), ((pa 2), .inl (ct 1, 21, .inr (.inl fl))), ((pa 3), .inl (ct 1, 21, .inr (.inl cv))), ((pa 4), .inl (ct 1, 21, .inr (.inl gt))), ((pa 5), .inl (ct 1, 21, .inr (.inl nh))), ((pa 6), .inl (ct 1, 21, .inr (.inl nf))), ((pa 7), .inl (ct 1, 21, .inr (.inl nc)))]) t_Pipe i_Pipe t_Pipe_ok n_Pipe rfl hx hb hts hown hE hP hD hS rfl (by decide) x_175 rfl (by decide +kernel) (rfl) rfl (Nat.le_of_ble_eq_true rfl) rfl d_Pipe_begin_4 (fun H locs hP hD hS => ?_)
  refine lv_aload_n hx hb d_Pipe_begin_7 rfl (lv_at hl 0 rfl) ?_
  refine lv_bipush (v := 100) hx hb d_Pipe_begin_8 (by decide) ?_
  refine q_put (ty := .int) 0 4 (ws1 := [((pa 0), .inr (2, [.int (nI (re9 + 1)), .int (nI im), .int (nI fr9), .int (nI lo9), .int 100, .int (nI rs9), .ref (pa 1), .ref (pa 2), .ref (pa 3), .ref (pa 4), .ref (pa 5), .ref (pa 6), .ref (pa 7)])), ((pa 1), .inl (ct 1, 21, .inr (.inl hd))), ((pa 2), .inl (ct 1, 21, .inr (.inl fl))), ((pa 3), .inl (ct 1, 21, .inr (.inl cv))), ((pa 4), .inl (ct 1, 21, .inr (.inl gt))), ((pa 5), .inl (ct 1, 21, .inr (.inl nh))), ((pa 6), .inl (ct 1, 21, .inr (.inl nf))), ((pa 7), .inl (ct 1, 21, .inr (.inl nc)))]) t_Pipe i_Pipe t_Pipe_ok n_Pipe rfl hx hb hts hown hE hP hD hS rfl (by decide) x_183 rfl (by decide +kernel) (rfl) rfl (Nat.le_of_ble_eq_true rfl) rfl d_Pipe_begin_10 (fun H locs hP hD hS => ?_)
  refine lv_aload_n hx hb d_Pipe_begin_13 rfl (lv_at hl 0 rfl) ?_
  refine lv_iload_n hx hb d_Pipe_begin_14 rfl (lv_at hl 2 rfl) ?_
  refine q_put (ty := .int) 0 5 (ws1 := [((pa 0), .inr (2, [.int (nI (re9 + 1)), .int (nI im), .int (nI fr9), .int (nI lo9), .int 100, .int (nI nh9), .ref (pa 1), .ref (pa 2), .ref (pa 3), .ref (pa 4), .ref (pa 5), .ref (pa 6), .ref (pa 7)])), ((pa 1), .inl (ct 1, 21, .inr (.inl hd))), ((pa 2), .inl (ct 1, 21, .inr (.inl fl))), ((pa 3), .inl (ct 1, 21, .inr (.inl cv))), ((pa 4), .inl (ct 1, 21, .inr (.inl gt))), ((pa 5), .inl (ct 1, 21, .inr (.inl nh))), ((pa 6), .inl (ct 1, 21, .inr (.inl nf))), ((pa 7), .inl (ct 1, 21, .inr (.inl nc)))]) t_Pipe i_Pipe t_Pipe_ok n_Pipe rfl hx hb hts hown hE hP hD hS rfl (by decide) x_185 rfl (by decide +kernel) (rfl) rfl (Nat.le_of_ble_eq_true rfl) rfl d_Pipe_begin_15 (fun H locs hP hD hS => ?_)
  refine lv_iconst (v := 0) hx hb d_Pipe_begin_18 (by decide) ?_
  refine lv_istore (lv' := [(4, .int 0), (0, .ref (pa 0)), (1, .int (nI re9)), (2, .int (nI nh9)), (3, .int nf9)]) hx hb d_Pipe_begin_19 hl (by decide) rfl (fun ls hl => ?_)
  have loop_21 : ∀ (n9 : Nat) (i : Nat) (Thd : Nat → Int64) (Tfl : Nat → Int64) (Tcv : Nat → Int64) (Tgt : Nat → Int64) (hi : i ≤ re9 + 1) (hT : ∀ j, j < i → Thd j = lN nh9 ∧ Tfl j = nf9.toInt64 ∧ Tcv j = 0 ∧ Tgt j = lN nh9) (hn9 : re9 + 1 - i < n9) (H : Heap) (locs : List Loc) (ls : Array Slot), va_P D classes [((pa 0), .inr (2, [.int (nI (re9 + 1)), .int (nI im), .int (nI fr9), .int (nI lo9), .int 100, .int (nI nh9), .ref (pa 1), .ref (pa 2), .ref (pa 3), .ref (pa 4), .ref (pa 5), .ref (pa 6), .ref (pa 7)])), ((pa 1), .inl (ct 1, 21, .inr (.inl Thd))), ((pa 2), .inl (ct 1, 21, .inr (.inl Tfl))), ((pa 3), .inl (ct 1, 21, .inr (.inl Tcv))), ((pa 4), .inl (ct 1, 21, .inr (.inl Tgt))), ((pa 5), .inl (ct 1, 21, .inr (.inl nh))), ((pa 6), .inl (ct 1, 21, .inr (.inl nf))), ((pa 7), .inl (ct 1, 21, .inr (.inl nc)))] H → va_D A [((pa 0), .inr (2, [.int (nI (re9 + 1)), .int (nI im), .int (nI fr9), .int (nI lo9), .int 100, .int (nI nh9), .ref (pa 1), .ref (pa 2), .ref (pa 3), .ref (pa 4), .ref (pa 5), .ref (pa 6), .ref (pa 7)])), ((pa 1), .inl (ct 1, 21, .inr (.inl Thd))), ((pa 2), .inl (ct 1, 21, .inr (.inl Tfl))), ((pa 3), .inl (ct 1, 21, .inr (.inl Tcv))), ((pa 4), .inl (ct 1, 21, .inr (.inl Tgt))), ((pa 5), .inl (ct 1, 21, .inr (.inl nh))), ((pa 6), .inl (ct 1, 21, .inr (.inl nf))), ((pa 7), .inl (ct 1, 21, .inr (.inl nc)))] → va_S A s.heap H locs → lv_has ls 5 [(0, .ref (pa 0)), (1, .int (nI re9)), (2, .int (nI nh9)), (3, .int nf9), (4, .int (nI i))] → W p l e (rmW 0 0 0 0) s m args below meth c H locs (0) (0) (MQ below (QcW D [((pa 0), .inr (2, [.int (nI nd), .int (nI im), .int (nI fr9), .int (nI lo9), .int (nI op9), .int (nI rs9), .ref (pa 1), .ref (pa 2), .ref (pa 3), .ref (pa 4), .ref (pa 5), .ref (pa 6), .ref (pa 7)])), ((pa 1), .inl (ct 1, 21, .inr (.inl hd))), ((pa 2), .inl (ct 1, 21, .inr (.inl fl))), ((pa 3), .inl (ct 1, 21, .inr (.inl cv))), ((pa 4), .inl (ct 1, 21, .inr (.inl gt))), ((pa 5), .inl (ct 1, 21, .inr (.inl nh))), ((pa 6), .inl (ct 1, 21, .inr (.inl nf))), ((pa 7), .inl (ct 1, 21, .inr (.inl nc)))] sz (fun v W1 => ∃ (hd1 : Nat → Int64) (fl1 : Nat → Int64) (cv1 : Nat → Int64) (gt1 : Nat → Int64), v = none ∧ W1 = [((pa 0), .inr (2, [.int (nI (re9 + 1)), .int (nI im), .int (nI fr9), .int (nI lo9), .int 100, .int (nI nh9), .ref (pa 1), .ref (pa 2), .ref (pa 3), .ref (pa 4), .ref (pa 5), .ref (pa 6), .ref (pa 7)])), ((pa 1), .inl (ct 1, 21, .inr (.inl hd1))), ((pa 2), .inl (ct 1, 21, .inr (.inl fl1))), ((pa 3), .inl (ct 1, 21, .inr (.inl cv1))), ((pa 4), .inl (ct 1, 21, .inr (.inl gt1))), ((pa 5), .inl (ct 1, 21, .inr (.inl nh))), ((pa 6), .inl (ct 1, 21, .inr (.inl nf))), ((pa 7), .inl (ct 1, 21, .inr (.inl nc)))] ∧ (∀ j, j ≤ re9 → hd1 j = lN nh9 ∧ fl1 j = nf9.toInt64 ∧ cv1 j = 0 ∧ gt1 j = lN nh9))) args s 0 0 A) (F0 m 21 ls []) := by
    intro n9
    induction n9 with
    | zero => intro i Thd Tfl Tcv Tgt hi hT hn9 H locs ls hP hD hS hl; exact absurd hn9 (Nat.not_lt_zero _)
    | succ n9 ih_21 =>
      intro i Thd Tfl Tcv Tgt hi hT hn9 H locs ls hP hD hS hl
      refine lv_iload hx hb d_Pipe_begin_21 (lv_at hl 4 rfl) ?_
      refine lv_aload_n hx hb d_Pipe_begin_23 rfl (lv_at hl 0 rfl) ?_
      refine q_get 0 0 i_Pipe rfl hx hb hts hown hE hP rfl (by decide) x_175 rfl d_Pipe_begin_24 ?_
      refine q_icmp_ge_n (a := i) (b := re9 + 1) (tgt := 71) hx hb d_Pipe_begin_27 (by decide) rfl rfl (by omega) (by omega) (fun h_27 => ?_) (fun h_27 => ?_)
      · exact rW_v hx hb hr hlk hAe hS hP hD (Nat.le_of_ble_eq_true rfl) (Nat.le_of_ble_eq_true rfl) d_Pipe_begin_71 ⟨Thd, Tfl, Tcv, Tgt, rfl, rfl, fun j hj => hT j (by omega)⟩
      · refine lv_aload_n hx hb d_Pipe_begin_30 rfl (lv_at hl 0 rfl) ?_
        refine q_get 0 6 i_Pipe rfl hx hb hts hown hE hP rfl (by decide) x_186 rfl d_Pipe_begin_31 ?_
        refine lv_iload hx hb d_Pipe_begin_34 (lv_at hl 4 rfl) ?_
        refine lv_iload_n hx hb d_Pipe_begin_36 rfl (lv_at hl 2 rfl) ?_
        refine lv_i2l (v := lN nh9) hx hb d_Pipe_begin_37 (nI_l (by omega)) ?_
        obtain ⟨hd_1, ehd_1⟩ : ∃ g9 : Nat → Int64, g9 = vp_updL Thd i (lN nh9) := ⟨_, rfl⟩
        refine q_last (k := i) 1 (ws1 := [((pa 0), .inr (2, [.int (nI (re9 + 1)), .int (nI im), .int (nI fr9), .int (nI lo9), .int 100, .int (nI nh9), .ref (pa 1), .ref (pa 2), .ref (pa 3), .ref (pa 4), .ref (pa 5), .ref (pa 6), .ref (pa 7)])), ((pa 1), .inl (ct 1, 21, .inr (.inl hd_1))), ((pa 2), .inl (ct 1, 21, .inr (.inl Tfl))), ((pa 3), .inl (ct 1, 21, .inr (.inl Tcv))), ((pa 4), .inl (ct 1, 21, .inr (.inl Tgt))), ((pa 5), .inl (ct 1, 21, .inr (.inl nh))), ((pa 6), .inl (ct 1, 21, .inr (.inl nf))), ((pa 7), .inl (ct 1, 21, .inr (.inl nc)))]) ehd_1 hx hb hE hP hD hS rfl rfl (by omega) (by decide) rfl d_Pipe_begin_38 (fun H locs hP hD hS => ?_)
        refine lv_aload_n hx hb d_Pipe_begin_39 rfl (lv_at hl 0 rfl) ?_
        refine q_get 0 7 i_Pipe rfl hx hb hts hown hE hP rfl (by decide) x_187 rfl d_Pipe_begin_40 ?_
        refine lv_iload hx hb d_Pipe_begin_43 (lv_at hl 4 rfl) ?_
        refine lv_iload_n hx hb d_Pipe_begin_45 rfl (lv_at hl 3 rfl) ?_
        refine lv_i2l hx hb d_Pipe_begin_46 rfl ?_
        obtain ⟨fl_1, efl_1⟩ : ∃ g9 : Nat → Int64, g9 = vp_updL Tfl i nf9.toInt64 := ⟨_, rfl⟩
        refine q_last (k := i) 2 (ws1 := [((pa 0), .inr (2, [.int (nI (re9 + 1)), .int (nI im), .int (nI fr9), .int (nI lo9), .int 100, .int (nI nh9), .ref (pa 1), .ref (pa 2), .ref (pa 3), .ref (pa 4), .ref (pa 5), .ref (pa 6), .ref (pa 7)])), ((pa 1), .inl (ct 1, 21, .inr (.inl hd_1))), ((pa 2), .inl (ct 1, 21, .inr (.inl fl_1))), ((pa 3), .inl (ct 1, 21, .inr (.inl Tcv))), ((pa 4), .inl (ct 1, 21, .inr (.inl Tgt))), ((pa 5), .inl (ct 1, 21, .inr (.inl nh))), ((pa 6), .inl (ct 1, 21, .inr (.inl nf))), ((pa 7), .inl (ct 1, 21, .inr (.inl nc)))]) efl_1 hx hb hE hP hD hS rfl rfl (by omega) (by decide) rfl d_Pipe_begin_47 (fun H locs hP hD hS => ?_)
        refine lv_aload_n hx hb d_Pipe_begin_48 rfl (lv_at hl 0 rfl) ?_
        refine q_get 0 8 i_Pipe rfl hx hb hts hown hE hP rfl (by decide) x_188 rfl d_Pipe_begin_49 ?_
        refine lv_iload hx hb d_Pipe_begin_52 (lv_at hl 4 rfl) ?_
        refine lv_lconst (v := 0) hx hb d_Pipe_begin_54 (by decide) ?_
        obtain ⟨cv_1, ecv_1⟩ : ∃ g9 : Nat → Int64, g9 = vp_updL Tcv i 0 := ⟨_, rfl⟩
        refine q_last (k := i) 3 (ws1 := [((pa 0), .inr (2, [.int (nI (re9 + 1)), .int (nI im), .int (nI fr9), .int (nI lo9), .int 100, .int (nI nh9), .ref (pa 1), .ref (pa 2), .ref (pa 3), .ref (pa 4), .ref (pa 5), .ref (pa 6), .ref (pa 7)])), ((pa 1), .inl (ct 1, 21, .inr (.inl hd_1))), ((pa 2), .inl (ct 1, 21, .inr (.inl fl_1))), ((pa 3), .inl (ct 1, 21, .inr (.inl cv_1))), ((pa 4), .inl (ct 1, 21, .inr (.inl Tgt))), ((pa 5), .inl (ct 1, 21, .inr (.inl nh))), ((pa 6), .inl (ct 1, 21, .inr (.inl nf))), ((pa 7), .inl (ct 1, 21, .inr (.inl nc)))]) ecv_1 hx hb hE hP hD hS rfl rfl (by omega) (by decide) rfl d_Pipe_begin_55 (fun H locs hP hD hS => ?_)
        refine lv_aload_n hx hb d_Pipe_begin_56 rfl (lv_at hl 0 rfl) ?_
        refine q_get 0 9 i_Pipe rfl hx hb hts hown hE hP rfl (by decide) x_189 rfl d_Pipe_begin_57 ?_
        refine lv_iload hx hb d_Pipe_begin_60 (lv_at hl 4 rfl) ?_
        refine lv_iload_n hx hb d_Pipe_begin_62 rfl (lv_at hl 2 rfl) ?_
        refine lv_i2l (v := lN nh9) hx hb d_Pipe_begin_63 (nI_l (by omega)) ?_
        obtain ⟨gt_1, egt_1⟩ : ∃ g9 : Nat → Int64, g9 = vp_updL Tgt i (lN nh9) := ⟨_, rfl⟩
        refine q_last (k := i) 4 (ws1 := [((pa 0), .inr (2, [.int (nI (re9 + 1)), .int (nI im), .int (nI fr9), .int (nI lo9), .int 100, .int (nI nh9), .ref (pa 1), .ref (pa 2), .ref (pa 3), .ref (pa 4), .ref (pa 5), .ref (pa 6), .ref (pa 7)])), ((pa 1), .inl (ct 1, 21, .inr (.inl hd_1))), ((pa 2), .inl (ct 1, 21, .inr (.inl fl_1))), ((pa 3), .inl (ct 1, 21, .inr (.inl cv_1))), ((pa 4), .inl (ct 1, 21, .inr (.inl gt_1))), ((pa 5), .inl (ct 1, 21, .inr (.inl nh))), ((pa 6), .inl (ct 1, 21, .inr (.inl nf))), ((pa 7), .inl (ct 1, 21, .inr (.inl nc)))]) egt_1 hx hb hE hP hD hS rfl rfl (by omega) (by decide) rfl d_Pipe_begin_64 (fun H locs hP hD hS => ?_)
        refine lv_iinc (v := (nI (i + 1))) (lv' := [(4, .int (nI (i + 1))), (0, .ref (pa 0)), (1, .int (nI re9)), (2, .int (nI nh9)), (3, .int nf9)]) hx hb d_Pipe_begin_65 hl (k := 4) rfl (nI_1 _) (by decide) rfl (fun ls hl => ?_)
        refine lv_goto (tgt := 21) hx hb d_Pipe_begin_68 (by decide) ?_
        exact ih_21 (i + 1) hd_1 fl_1 cv_1 gt_1 (by omega) (fun j hj => by
            rw [ehd_1, efl_1, ecv_1, egt_1]
            by_cases q : j = i
            · rw [q, pk_uLs, pk_uLs, pk_uLs, pk_uLs]; exact ⟨rfl, rfl, rfl, rfl⟩
            · rw [pk_uLn q, pk_uLn q, pk_uLn q, pk_uLn q]; exact hT j (by omega)) (by omega) _ _ _ hP hD hS (lv_sub hl [1, 2, 3, 4, 0] rfl)
  exact loop_21 _ 0 hd fl cv gt (by omega) (fun j hj => absurd hj (Nat.not_lt_zero _)) (Nat.lt_succ_self _) _ _ _ hP hD hS (lv_sub hl [1, 2, 3, 4, 0] rfl)
set_option maxHeartbeats 4000000 in
set_option maxRecDepth 100000 in
theorem c_Pipe_tells_0 (l : Launch) (D : va_G) (ct : Nat → ClassId) (st : Nat → Nat) (pa : Nat → Nat) (nd : Nat) (im : Nat) (fr9 : Nat) (lo9 : Nat) (op9 : Nat) (rs9 : Nat) (hd : Nat → Int64) (fl : Nat → Int64) (cv : Nat → Int64) (gt : Nat → Int64) (nh : Nat → Int64) (nf : Nat → Int64) (nc : Nat → Int64) (k : Nat) (hk : k < 21) : Met l y_Pipe_tells (wsy y_Pipe_tells b_Pipe_tells 3 (some .long)) (k2_rm 0 0) (PcR D ct st [.ref (pa 0), .int (nI k), .int 0] [((pa 0), .inr (2, [.int (nI nd), .int (nI im), .int (nI fr9), .int (nI lo9), .int (nI op9), .int (nI rs9), .ref (pa 1), .ref (pa 2), .ref (pa 3), .ref (pa 4), .ref (pa 5), .ref (pa 6), .ref (pa 7)])), ((pa 1), .inl (ct 1, 21, .inr (.inl hd))), ((pa 2), .inl (ct 1, 21, .inr (.inl fl))), ((pa 3), .inl (ct 1, 21, .inr (.inl cv))), ((pa 4), .inl (ct 1, 21, .inr (.inl gt))), ((pa 5), .inl (ct 1, 21, .inr (.inl nh))), ((pa 6), .inl (ct 1, 21, .inr (.inl nf))), ((pa 7), .inl (ct 1, 21, .inr (.inl nc)))]) (k2_QcV (.long (hd k))) 0 0 (fun _ => False) := by
  refine enterR (by decide) (Nat.le_of_ble_eq_true rfl) ?_
  intro p e s m args below meth c ls hx hb hr hml hown hts hlk hP hE hV hS hl
  have hl : lv_has ls 3 [(0, .ref (pa 0)), (1, .int (nI k)), (2, .int 0)] := hl
  refine lv_iload_n hx hb d_Pipe_tells_0 rfl (lv_at hl 2 rfl) ?_
  refine lv_tableIn (tgt := 28) hx hb d_Pipe_tells_1 (by decide) (by decide) (by rfl) (by decide) ?_
  refine lv_aload_n hx hb d_Pipe_tells_28 rfl (lv_at hl 0 rfl) ?_
  refine q_get 0 6 i_Pipe rfl hx hb hts hown hE hP rfl (by decide) x_186 rfl d_Pipe_tells_29 ?_
  refine lv_iload_n hx hb d_Pipe_tells_32 rfl (lv_at hl 1 rfl) ?_
  refine q_lald (k := k) 1 hx hb hE hP rfl rfl (by omega) (by decide) d_Pipe_tells_33 ?_
  exact rR_l hx hb hr hlk d_Pipe_tells_34 (rfl)
set_option maxHeartbeats 4000000 in
set_option maxRecDepth 100000 in
theorem c_Pipe_tells_1 (l : Launch) (D : va_G) (ct : Nat → ClassId) (st : Nat → Nat) (pa : Nat → Nat) (nd : Nat) (im : Nat) (fr9 : Nat) (lo9 : Nat) (op9 : Nat) (rs9 : Nat) (hd : Nat → Int64) (fl : Nat → Int64) (cv : Nat → Int64) (gt : Nat → Int64) (nh : Nat → Int64) (nf : Nat → Int64) (nc : Nat → Int64) (k : Nat) (hk : k < 21) : Met l y_Pipe_tells (wsy y_Pipe_tells b_Pipe_tells 3 (some .long)) (k2_rm 0 0) (PcR D ct st [.ref (pa 0), .int (nI k), .int 1] [((pa 0), .inr (2, [.int (nI nd), .int (nI im), .int (nI fr9), .int (nI lo9), .int (nI op9), .int (nI rs9), .ref (pa 1), .ref (pa 2), .ref (pa 3), .ref (pa 4), .ref (pa 5), .ref (pa 6), .ref (pa 7)])), ((pa 1), .inl (ct 1, 21, .inr (.inl hd))), ((pa 2), .inl (ct 1, 21, .inr (.inl fl))), ((pa 3), .inl (ct 1, 21, .inr (.inl cv))), ((pa 4), .inl (ct 1, 21, .inr (.inl gt))), ((pa 5), .inl (ct 1, 21, .inr (.inl nh))), ((pa 6), .inl (ct 1, 21, .inr (.inl nf))), ((pa 7), .inl (ct 1, 21, .inr (.inl nc)))]) (k2_QcV (.long (fl k))) 0 0 (fun _ => False) := by
  refine enterR (by decide) (Nat.le_of_ble_eq_true rfl) ?_
  intro p e s m args below meth c ls hx hb hr hml hown hts hlk hP hE hV hS hl
  have hl : lv_has ls 3 [(0, .ref (pa 0)), (1, .int (nI k)), (2, .int 1)] := hl
  refine lv_iload_n hx hb d_Pipe_tells_0 rfl (lv_at hl 2 rfl) ?_
  refine lv_tableIn (tgt := 35) hx hb d_Pipe_tells_1 (by decide) (by decide) (by rfl) (by decide) ?_
  refine lv_aload_n hx hb d_Pipe_tells_35 rfl (lv_at hl 0 rfl) ?_
  refine q_get 0 7 i_Pipe rfl hx hb hts hown hE hP rfl (by decide) x_187 rfl d_Pipe_tells_36 ?_
  refine lv_iload_n hx hb d_Pipe_tells_39 rfl (lv_at hl 1 rfl) ?_
  refine q_lald (k := k) 2 hx hb hE hP rfl rfl (by omega) (by decide) d_Pipe_tells_40 ?_
  exact rR_l hx hb hr hlk d_Pipe_tells_41 (rfl)
set_option maxHeartbeats 4000000 in
set_option maxRecDepth 100000 in
theorem c_Pipe_tells_2 (l : Launch) (D : va_G) (ct : Nat → ClassId) (st : Nat → Nat) (pa : Nat → Nat) (nd : Nat) (im : Nat) (fr9 : Nat) (lo9 : Nat) (op9 : Nat) (rs9 : Nat) (hd : Nat → Int64) (fl : Nat → Int64) (cv : Nat → Int64) (gt : Nat → Int64) (nh : Nat → Int64) (nf : Nat → Int64) (nc : Nat → Int64) (k : Nat) (hk : k < 21) : Met l y_Pipe_tells (wsy y_Pipe_tells b_Pipe_tells 3 (some .long)) (k2_rm 0 0) (PcR D ct st [.ref (pa 0), .int (nI k), .int 2] [((pa 0), .inr (2, [.int (nI nd), .int (nI im), .int (nI fr9), .int (nI lo9), .int (nI op9), .int (nI rs9), .ref (pa 1), .ref (pa 2), .ref (pa 3), .ref (pa 4), .ref (pa 5), .ref (pa 6), .ref (pa 7)])), ((pa 1), .inl (ct 1, 21, .inr (.inl hd))), ((pa 2), .inl (ct 1, 21, .inr (.inl fl))), ((pa 3), .inl (ct 1, 21, .inr (.inl cv))), ((pa 4), .inl (ct 1, 21, .inr (.inl gt))), ((pa 5), .inl (ct 1, 21, .inr (.inl nh))), ((pa 6), .inl (ct 1, 21, .inr (.inl nf))), ((pa 7), .inl (ct 1, 21, .inr (.inl nc)))]) (k2_QcV (.long (cv k))) 0 0 (fun _ => False) := by
  refine enterR (by decide) (Nat.le_of_ble_eq_true rfl) ?_
  intro p e s m args below meth c ls hx hb hr hml hown hts hlk hP hE hV hS hl
  have hl : lv_has ls 3 [(0, .ref (pa 0)), (1, .int (nI k)), (2, .int 2)] := hl
  refine lv_iload_n hx hb d_Pipe_tells_0 rfl (lv_at hl 2 rfl) ?_
  refine lv_tableIn (tgt := 42) hx hb d_Pipe_tells_1 (by decide) (by decide) (by rfl) (by decide) ?_
  refine lv_aload_n hx hb d_Pipe_tells_42 rfl (lv_at hl 0 rfl) ?_
  refine q_get 0 8 i_Pipe rfl hx hb hts hown hE hP rfl (by decide) x_188 rfl d_Pipe_tells_43 ?_
  refine lv_iload_n hx hb d_Pipe_tells_46 rfl (lv_at hl 1 rfl) ?_
  refine q_lald (k := k) 3 hx hb hE hP rfl rfl (by omega) (by decide) d_Pipe_tells_47 ?_
  exact rR_l hx hb hr hlk d_Pipe_tells_48 (rfl)
set_option maxHeartbeats 4000000 in
set_option maxRecDepth 100000 in
theorem c_Pipe_tells_3 (l : Launch) (D : va_G) (ct : Nat → ClassId) (st : Nat → Nat) (pa : Nat → Nat) (nd : Nat) (im : Nat) (fr9 : Nat) (lo9 : Nat) (op9 : Nat) (rs9 : Nat) (hd : Nat → Int64) (fl : Nat → Int64) (cv : Nat → Int64) (gt : Nat → Int64) (nh : Nat → Int64) (nf : Nat → Int64) (nc : Nat → Int64) (k : Nat) (hk : k < 21) : Met l y_Pipe_tells (wsy y_Pipe_tells b_Pipe_tells 3 (some .long)) (k2_rm 0 0) (PcR D ct st [.ref (pa 0), .int (nI k), .int 3] [((pa 0), .inr (2, [.int (nI nd), .int (nI im), .int (nI fr9), .int (nI lo9), .int (nI op9), .int (nI rs9), .ref (pa 1), .ref (pa 2), .ref (pa 3), .ref (pa 4), .ref (pa 5), .ref (pa 6), .ref (pa 7)])), ((pa 1), .inl (ct 1, 21, .inr (.inl hd))), ((pa 2), .inl (ct 1, 21, .inr (.inl fl))), ((pa 3), .inl (ct 1, 21, .inr (.inl cv))), ((pa 4), .inl (ct 1, 21, .inr (.inl gt))), ((pa 5), .inl (ct 1, 21, .inr (.inl nh))), ((pa 6), .inl (ct 1, 21, .inr (.inl nf))), ((pa 7), .inl (ct 1, 21, .inr (.inl nc)))]) (k2_QcV (.long (gt k))) 0 0 (fun _ => False) := by
  refine enterR (by decide) (Nat.le_of_ble_eq_true rfl) ?_
  intro p e s m args below meth c ls hx hb hr hml hown hts hlk hP hE hV hS hl
  have hl : lv_has ls 3 [(0, .ref (pa 0)), (1, .int (nI k)), (2, .int 3)] := hl
  refine lv_iload_n hx hb d_Pipe_tells_0 rfl (lv_at hl 2 rfl) ?_
  refine lv_tableOut (tgt := 49) hx hb d_Pipe_tells_1 (by decide) (by decide) ?_
  refine lv_aload_n hx hb d_Pipe_tells_49 rfl (lv_at hl 0 rfl) ?_
  refine q_get 0 9 i_Pipe rfl hx hb hts hown hE hP rfl (by decide) x_189 rfl d_Pipe_tells_50 ?_
  refine lv_iload_n hx hb d_Pipe_tells_53 rfl (lv_at hl 1 rfl) ?_
  refine q_lald (k := k) 4 hx hb hE hP rfl rfl (by omega) (by decide) d_Pipe_tells_54 ?_
  exact rR_l hx hb hr hlk d_Pipe_tells_55 (rfl)
set_option maxHeartbeats 4000000 in
set_option maxRecDepth 100000 in
theorem c_Pipe_copyFrom (l : Launch) (D : va_G) (ct : Nat → ClassId) (st : Nat → Nat) (pa : Nat → Nat) (nd : Nat) (im : Nat) (fr9 : Nat) (lo9 : Nat) (op9 : Nat) (rs9 : Nat) (hd : Nat → Int64) (fl : Nat → Int64) (cv : Nat → Int64) (gt : Nat → Int64) (nh : Nat → Int64) (nf : Nat → Int64) (nc : Nat → Int64) (pb9 : Nat → Nat) (ndB : Nat) (imB : Nat) (fr9B : Nat) (lo9B : Nat) (op9B : Nat) (rs9B : Nat) (hdB : Nat → Int64) (flB : Nat → Int64) (cvB : Nat → Int64) (gtB : Nat → Int64) (nhB : Nat → Int64) (nfB : Nat → Int64) (ncB : Nat → Int64) (sz : Nat) : Met l y_Pipe_copyFrom (wsy y_Pipe_copyFrom b_Pipe_copyFrom 2 (none)) (rmW 2 0 0 85) (PcW D ct st [.ref (pa 0), .ref (pb9 0)] [((pa 0), .inr (2, [.int (nI nd), .int (nI im), .int (nI fr9), .int (nI lo9), .int (nI op9), .int (nI rs9), .ref (pa 1), .ref (pa 2), .ref (pa 3), .ref (pa 4), .ref (pa 5), .ref (pa 6), .ref (pa 7)])), ((pa 1), .inl (ct 1, 21, .inr (.inl hd))), ((pa 2), .inl (ct 1, 21, .inr (.inl fl))), ((pa 3), .inl (ct 1, 21, .inr (.inl cv))), ((pa 4), .inl (ct 1, 21, .inr (.inl gt))), ((pa 5), .inl (ct 1, 21, .inr (.inl nh))), ((pa 6), .inl (ct 1, 21, .inr (.inl nf))), ((pa 7), .inl (ct 1, 21, .inr (.inl nc))), ((pb9 0), .inr (2, [.int (nI ndB), .int (nI imB), .int (nI fr9B), .int (nI lo9B), .int (nI op9B), .int (nI rs9B), .ref (pb9 1), .ref (pb9 2), .ref (pb9 3), .ref (pb9 4), .ref (pb9 5), .ref (pb9 6), .ref (pb9 7)])), ((pb9 1), .inl (ct 1, 21, .inr (.inl hdB))), ((pb9 2), .inl (ct 1, 21, .inr (.inl flB))), ((pb9 3), .inl (ct 1, 21, .inr (.inl cvB))), ((pb9 4), .inl (ct 1, 21, .inr (.inl gtB))), ((pb9 5), .inl (ct 1, 21, .inr (.inl nhB))), ((pb9 6), .inl (ct 1, 21, .inr (.inl nfB))), ((pb9 7), .inl (ct 1, 21, .inr (.inl ncB)))] sz) (QcW D [((pa 0), .inr (2, [.int (nI nd), .int (nI im), .int (nI fr9), .int (nI lo9), .int (nI op9), .int (nI rs9), .ref (pa 1), .ref (pa 2), .ref (pa 3), .ref (pa 4), .ref (pa 5), .ref (pa 6), .ref (pa 7)])), ((pa 1), .inl (ct 1, 21, .inr (.inl hd))), ((pa 2), .inl (ct 1, 21, .inr (.inl fl))), ((pa 3), .inl (ct 1, 21, .inr (.inl cv))), ((pa 4), .inl (ct 1, 21, .inr (.inl gt))), ((pa 5), .inl (ct 1, 21, .inr (.inl nh))), ((pa 6), .inl (ct 1, 21, .inr (.inl nf))), ((pa 7), .inl (ct 1, 21, .inr (.inl nc))), ((pb9 0), .inr (2, [.int (nI ndB), .int (nI imB), .int (nI fr9B), .int (nI lo9B), .int (nI op9B), .int (nI rs9B), .ref (pb9 1), .ref (pb9 2), .ref (pb9 3), .ref (pb9 4), .ref (pb9 5), .ref (pb9 6), .ref (pb9 7)])), ((pb9 1), .inl (ct 1, 21, .inr (.inl hdB))), ((pb9 2), .inl (ct 1, 21, .inr (.inl flB))), ((pb9 3), .inl (ct 1, 21, .inr (.inl cvB))), ((pb9 4), .inl (ct 1, 21, .inr (.inl gtB))), ((pb9 5), .inl (ct 1, 21, .inr (.inl nhB))), ((pb9 6), .inl (ct 1, 21, .inr (.inl nfB))), ((pb9 7), .inl (ct 1, 21, .inr (.inl ncB)))] sz (fun v W1 => v = none ∧ W1 = [((pa 0), .inr (2, [.int (nI ndB), .int (nI imB), .int (nI fr9B), .int (nI lo9B), .int (nI op9B), .int (nI rs9B), .ref (pa 1), .ref (pa 2), .ref (pa 3), .ref (pa 4), .ref (pa 5), .ref (pa 6), .ref (pa 7)])), ((pa 1), .inl (ct 1, 21, .inr (.inl (fun j => if j < 21 then hdB j else hd j)))), ((pa 2), .inl (ct 1, 21, .inr (.inl (fun j => if j < 21 then flB j else fl j)))), ((pa 3), .inl (ct 1, 21, .inr (.inl (fun j => if j < 21 then cvB j else cv j)))), ((pa 4), .inl (ct 1, 21, .inr (.inl (fun j => if j < 21 then gtB j else gt j)))), ((pa 5), .inl (ct 1, 21, .inr (.inl nh))), ((pa 6), .inl (ct 1, 21, .inr (.inl nf))), ((pa 7), .inl (ct 1, 21, .inr (.inl nc))), ((pb9 0), .inr (2, [.int (nI ndB), .int (nI imB), .int (nI fr9B), .int (nI lo9B), .int (nI op9B), .int (nI rs9B), .ref (pb9 1), .ref (pb9 2), .ref (pb9 3), .ref (pb9 4), .ref (pb9 5), .ref (pb9 6), .ref (pb9 7)])), ((pb9 1), .inl (ct 1, 21, .inr (.inl hdB))), ((pb9 2), .inl (ct 1, 21, .inr (.inl flB))), ((pb9 3), .inl (ct 1, 21, .inr (.inl cvB))), ((pb9 4), .inl (ct 1, 21, .inr (.inl gtB))), ((pb9 5), .inl (ct 1, 21, .inr (.inl nhB))), ((pb9 6), .inl (ct 1, 21, .inr (.inl nfB))), ((pb9 7), .inl (ct 1, 21, .inr (.inl ncB)))] ∧ (True))) 0 0 (va_A [((pa 0), .inr (2, [.int (nI nd), .int (nI im), .int (nI fr9), .int (nI lo9), .int (nI op9), .int (nI rs9), .ref (pa 1), .ref (pa 2), .ref (pa 3), .ref (pa 4), .ref (pa 5), .ref (pa 6), .ref (pa 7)])), ((pa 1), .inl (ct 1, 21, .inr (.inl hd))), ((pa 2), .inl (ct 1, 21, .inr (.inl fl))), ((pa 3), .inl (ct 1, 21, .inr (.inl cv))), ((pa 4), .inl (ct 1, 21, .inr (.inl gt))), ((pa 5), .inl (ct 1, 21, .inr (.inl nh))), ((pa 6), .inl (ct 1, 21, .inr (.inl nf))), ((pa 7), .inl (ct 1, 21, .inr (.inl nc))), ((pb9 0), .inr (2, [.int (nI ndB), .int (nI imB), .int (nI fr9B), .int (nI lo9B), .int (nI op9B), .int (nI rs9B), .ref (pb9 1), .ref (pb9 2), .ref (pb9 3), .ref (pb9 4), .ref (pb9 5), .ref (pb9 6), .ref (pb9 7)])), ((pb9 1), .inl (ct 1, 21, .inr (.inl hdB))), ((pb9 2), .inl (ct 1, 21, .inr (.inl flB))), ((pb9 3), .inl (ct 1, 21, .inr (.inl cvB))), ((pb9 4), .inl (ct 1, 21, .inr (.inl gtB))), ((pb9 5), .inl (ct 1, 21, .inr (.inl nhB))), ((pb9 6), .inl (ct 1, 21, .inr (.inl nfB))), ((pb9 7), .inl (ct 1, 21, .inr (.inl ncB)))] sz) := by
  refine enterW (by decide) (Nat.le_of_ble_eq_true rfl) ?_
  intro p e s m args below meth c ls A hx hb hr hml hown hts hlk hin hsz hAe hP hD hA hE hV hS hl
  have hl : lv_has ls 2 [(0, .ref (pa 0)), (1, .ref (pb9 0))] := hl
  refine lv_aload_n hx hb d_Pipe_copyFrom_0 rfl (lv_at hl 0 rfl) ?_
  refine lv_aload_n hx hb d_Pipe_copyFrom_1 rfl (lv_at hl 1 rfl) ?_
  refine q_get 8 0 i_Pipe rfl hx hb hts hown hE hP rfl (by decide) x_175 rfl d_Pipe_copyFrom_2 ?_
  refine q_put (ty := .int) 0 0 (ws1 := [((pa 0), .inr (2, [.int (nI ndB), .int (nI im), .int (nI fr9), .int (nI lo9), .int (nI op9), .int (nI rs9), .ref (pa 1), .ref (pa 2), .ref (pa 3), .ref (pa 4), .ref (pa 5), .ref (pa 6), .ref (pa 7)])), ((pa 1), .inl (ct 1, 21, .inr (.inl hd))), ((pa 2), .inl (ct 1, 21, .inr (.inl fl))), ((pa 3), .inl (ct 1, 21, .inr (.inl cv))), ((pa 4), .inl (ct 1, 21, .inr (.inl gt))), ((pa 5), .inl (ct 1, 21, .inr (.inl nh))), ((pa 6), .inl (ct 1, 21, .inr (.inl nf))), ((pa 7), .inl (ct 1, 21, .inr (.inl nc))), ((pb9 0), .inr (2, [.int (nI ndB), .int (nI imB), .int (nI fr9B), .int (nI lo9B), .int (nI op9B), .int (nI rs9B), .ref (pb9 1), .ref (pb9 2), .ref (pb9 3), .ref (pb9 4), .ref (pb9 5), .ref (pb9 6), .ref (pb9 7)])), ((pb9 1), .inl (ct 1, 21, .inr (.inl hdB))), ((pb9 2), .inl (ct 1, 21, .inr (.inl flB))), ((pb9 3), .inl (ct 1, 21, .inr (.inl cvB))), ((pb9 4), .inl (ct 1, 21, .inr (.inl gtB))), ((pb9 5), .inl (ct 1, 21, .inr (.inl nhB))), ((pb9 6), .inl (ct 1, 21, .inr (.inl nfB))), ((pb9 7), .inl (ct 1, 21, .inr (.inl ncB)))]) t_Pipe i_Pipe t_Pipe_ok n_Pipe rfl hx hb hts hown hE hP hD hS rfl (by decide) x_175 rfl (by decide +kernel) (rfl) rfl (Nat.le_of_ble_eq_true rfl) rfl d_Pipe_copyFrom_5 (fun H locs hP hD hS => ?_)
  refine lv_aload_n hx hb d_Pipe_copyFrom_8 rfl (lv_at hl 0 rfl) ?_
  refine lv_aload_n hx hb d_Pipe_copyFrom_9 rfl (lv_at hl 1 rfl) ?_
  refine q_get 8 1 i_Pipe rfl hx hb hts hown hE hP rfl (by decide) x_177 rfl d_Pipe_copyFrom_10 ?_
  refine q_put (ty := .int) 0 1 (ws1 := [((pa 0), .inr (2, [.int (nI ndB), .int (nI imB), .int (nI fr9), .int (nI lo9), .int (nI op9), .int (nI rs9), .ref (pa 1), .ref (pa 2), .ref (pa 3), .ref (pa 4), .ref (pa 5), .ref (pa 6), .ref (pa 7)])), ((pa 1), .inl (ct 1, 21, .inr (.inl hd))), ((pa 2), .inl (ct 1, 21, .inr (.inl fl))), ((pa 3), .inl (ct 1, 21, .inr (.inl cv))), ((pa 4), .inl (ct 1, 21, .inr (.inl gt))), ((pa 5), .inl (ct 1, 21, .inr (.inl nh))), ((pa 6), .inl (ct 1, 21, .inr (.inl nf))), ((pa 7), .inl (ct 1, 21, .inr (.inl nc))), ((pb9 0), .inr (2, [.int (nI ndB), .int (nI imB), .int (nI fr9B), .int (nI lo9B), .int (nI op9B), .int (nI rs9B), .ref (pb9 1), .ref (pb9 2), .ref (pb9 3), .ref (pb9 4), .ref (pb9 5), .ref (pb9 6), .ref (pb9 7)])), ((pb9 1), .inl (ct 1, 21, .inr (.inl hdB))), ((pb9 2), .inl (ct 1, 21, .inr (.inl flB))), ((pb9 3), .inl (ct 1, 21, .inr (.inl cvB))), ((pb9 4), .inl (ct 1, 21, .inr (.inl gtB))), ((pb9 5), .inl (ct 1, 21, .inr (.inl nhB))), ((pb9 6), .inl (ct 1, 21, .inr (.inl nfB))), ((pb9 7), .inl (ct 1, 21, .inr (.inl ncB)))]) t_Pipe i_Pipe t_Pipe_ok n_Pipe rfl hx hb hts hown hE hP hD hS rfl (by decide) x_177 rfl (by decide +kernel) (rfl) rfl (Nat.le_of_ble_eq_true rfl) rfl d_Pipe_copyFrom_13 (fun H locs hP hD hS => ?_)
  refine lv_aload_n hx hb d_Pipe_copyFrom_16 rfl (lv_at hl 0 rfl) ?_
  refine lv_aload_n hx hb d_Pipe_copyFrom_17 rfl (lv_at hl 1 rfl) ?_
  refine q_get 8 2 i_Pipe rfl hx hb hts hown hE hP rfl (by decide) x_179 rfl d_Pipe_copyFrom_18 ?_
  refine q_put (ty := .int) 0 2 (ws1 := [((pa 0), .inr (2, [.int (nI ndB), .int (nI imB), .int (nI fr9B), .int (nI lo9), .int (nI op9), .int (nI rs9), .ref (pa 1), .ref (pa 2), .ref (pa 3), .ref (pa 4), .ref (pa 5), .ref (pa 6), .ref (pa 7)])), ((pa 1), .inl (ct 1, 21, .inr (.inl hd))), ((pa 2), .inl (ct 1, 21, .inr (.inl fl))), ((pa 3), .inl (ct 1, 21, .inr (.inl cv))), ((pa 4), .inl (ct 1, 21, .inr (.inl gt))), ((pa 5), .inl (ct 1, 21, .inr (.inl nh))), ((pa 6), .inl (ct 1, 21, .inr (.inl nf))), ((pa 7), .inl (ct 1, 21, .inr (.inl nc))), ((pb9 0), .inr (2, [.int (nI ndB), .int (nI imB), .int (nI fr9B), .int (nI lo9B), .int (nI op9B), .int (nI rs9B), .ref (pb9 1), .ref (pb9 2), .ref (pb9 3), .ref (pb9 4), .ref (pb9 5), .ref (pb9 6), .ref (pb9 7)])), ((pb9 1), .inl (ct 1, 21, .inr (.inl hdB))), ((pb9 2), .inl (ct 1, 21, .inr (.inl flB))), ((pb9 3), .inl (ct 1, 21, .inr (.inl cvB))), ((pb9 4), .inl (ct 1, 21, .inr (.inl gtB))), ((pb9 5), .inl (ct 1, 21, .inr (.inl nhB))), ((pb9 6), .inl (ct 1, 21, .inr (.inl nfB))), ((pb9 7), .inl (ct 1, 21, .inr (.inl ncB)))]) t_Pipe i_Pipe t_Pipe_ok n_Pipe rfl hx hb hts hown hE hP hD hS rfl (by decide) x_179 rfl (by decide +kernel) (rfl) rfl (Nat.le_of_ble_eq_true rfl) rfl d_Pipe_copyFrom_21 (fun H locs hP hD hS => ?_)
  refine lv_aload_n hx hb d_Pipe_copyFrom_24 rfl (lv_at hl 0 rfl) ?_
  refine lv_aload_n hx hb d_Pipe_copyFrom_25 rfl (lv_at hl 1 rfl) ?_
  refine q_get 8 3 i_Pipe rfl hx hb hts hown hE hP rfl (by decide) x_181 rfl d_Pipe_copyFrom_26 ?_
  refine q_put (ty := .int) 0 3 (ws1 := [((pa 0), .inr (2, [.int (nI ndB), .int (nI imB), .int (nI fr9B), .int (nI lo9B), .int (nI op9), .int (nI rs9), .ref (pa 1), .ref (pa 2), .ref (pa 3), .ref (pa 4), .ref (pa 5), .ref (pa 6), .ref (pa 7)])), ((pa 1), .inl (ct 1, 21, .inr (.inl hd))), ((pa 2), .inl (ct 1, 21, .inr (.inl fl))), ((pa 3), .inl (ct 1, 21, .inr (.inl cv))), ((pa 4), .inl (ct 1, 21, .inr (.inl gt))), ((pa 5), .inl (ct 1, 21, .inr (.inl nh))), ((pa 6), .inl (ct 1, 21, .inr (.inl nf))), ((pa 7), .inl (ct 1, 21, .inr (.inl nc))), ((pb9 0), .inr (2, [.int (nI ndB), .int (nI imB), .int (nI fr9B), .int (nI lo9B), .int (nI op9B), .int (nI rs9B), .ref (pb9 1), .ref (pb9 2), .ref (pb9 3), .ref (pb9 4), .ref (pb9 5), .ref (pb9 6), .ref (pb9 7)])), ((pb9 1), .inl (ct 1, 21, .inr (.inl hdB))), ((pb9 2), .inl (ct 1, 21, .inr (.inl flB))), ((pb9 3), .inl (ct 1, 21, .inr (.inl cvB))), ((pb9 4), .inl (ct 1, 21, .inr (.inl gtB))), ((pb9 5), .inl (ct 1, 21, .inr (.inl nhB))), ((pb9 6), .inl (ct 1, 21, .inr (.inl nfB))), ((pb9 7), .inl (ct 1, 21, .inr (.inl ncB)))]) t_Pipe i_Pipe t_Pipe_ok n_Pipe rfl hx hb hts hown hE hP hD hS rfl (by decide) x_181 rfl (by decide +kernel) (rfl) rfl (Nat.le_of_ble_eq_true rfl) rfl d_Pipe_copyFrom_29 (fun H locs hP hD hS => ?_)
  refine lv_aload_n hx hb d_Pipe_copyFrom_32 rfl (lv_at hl 0 rfl) ?_
  refine lv_aload_n hx hb d_Pipe_copyFrom_33 rfl (lv_at hl 1 rfl) ?_
  refine q_get 8 4 i_Pipe rfl hx hb hts hown hE hP rfl (by decide) x_183 rfl d_Pipe_copyFrom_34 ?_
  refine q_put (ty := .int) 0 4 (ws1 := [((pa 0), .inr (2, [.int (nI ndB), .int (nI imB), .int (nI fr9B), .int (nI lo9B), .int (nI op9B), .int (nI rs9), .ref (pa 1), .ref (pa 2), .ref (pa 3), .ref (pa 4), .ref (pa 5), .ref (pa 6), .ref (pa 7)])), ((pa 1), .inl (ct 1, 21, .inr (.inl hd))), ((pa 2), .inl (ct 1, 21, .inr (.inl fl))), ((pa 3), .inl (ct 1, 21, .inr (.inl cv))), ((pa 4), .inl (ct 1, 21, .inr (.inl gt))), ((pa 5), .inl (ct 1, 21, .inr (.inl nh))), ((pa 6), .inl (ct 1, 21, .inr (.inl nf))), ((pa 7), .inl (ct 1, 21, .inr (.inl nc))), ((pb9 0), .inr (2, [.int (nI ndB), .int (nI imB), .int (nI fr9B), .int (nI lo9B), .int (nI op9B), .int (nI rs9B), .ref (pb9 1), .ref (pb9 2), .ref (pb9 3), .ref (pb9 4), .ref (pb9 5), .ref (pb9 6), .ref (pb9 7)])), ((pb9 1), .inl (ct 1, 21, .inr (.inl hdB))), ((pb9 2), .inl (ct 1, 21, .inr (.inl flB))), ((pb9 3), .inl (ct 1, 21, .inr (.inl cvB))), ((pb9 4), .inl (ct 1, 21, .inr (.inl gtB))), ((pb9 5), .inl (ct 1, 21, .inr (.inl nhB))), ((pb9 6), .inl (ct 1, 21, .inr (.inl nfB))), ((pb9 7), .inl (ct 1, 21, .inr (.inl ncB)))]) t_Pipe i_Pipe t_Pipe_ok n_Pipe rfl hx hb hts hown hE hP hD hS rfl (by decide) x_183 rfl (by decide +kernel) (rfl) rfl (Nat.le_of_ble_eq_true rfl) rfl d_Pipe_copyFrom_37 (fun H locs hP hD hS => ?_)
  refine lv_aload_n hx hb d_Pipe_copyFrom_40 rfl (lv_at hl 0 rfl) ?_
  refine lv_aload_n hx hb d_Pipe_copyFrom_41 rfl (lv_at hl 1 rfl) ?_
  refine q_get 8 5 i_Pipe rfl hx hb hts hown hE hP rfl (by decide) x_185 rfl d_Pipe_copyFrom_42 ?_
  refine q_put (ty := .int) 0 5 (ws1 := [((pa 0), .inr (2, [.int (nI ndB), .int (nI imB), .int (nI fr9B), .int (nI lo9B), .int (nI op9B), .int (nI rs9B), .ref (pa 1), .ref (pa 2), .ref (pa 3), .ref (pa 4), .ref (pa 5), .ref (pa 6), .ref (pa 7)])), ((pa 1), .inl (ct 1, 21, .inr (.inl hd))), ((pa 2), .inl (ct 1, 21, .inr (.inl fl))), ((pa 3), .inl (ct 1, 21, .inr (.inl cv))), ((pa 4), .inl (ct 1, 21, .inr (.inl gt))), ((pa 5), .inl (ct 1, 21, .inr (.inl nh))), ((pa 6), .inl (ct 1, 21, .inr (.inl nf))), ((pa 7), .inl (ct 1, 21, .inr (.inl nc))), ((pb9 0), .inr (2, [.int (nI ndB), .int (nI imB), .int (nI fr9B), .int (nI lo9B), .int (nI op9B), .int (nI rs9B), .ref (pb9 1), .ref (pb9 2), .ref (pb9 3), .ref (pb9 4), .ref (pb9 5), .ref (pb9 6), .ref (pb9 7)])), ((pb9 1), .inl (ct 1, 21, .inr (.inl hdB))), ((pb9 2), .inl (ct 1, 21, .inr (.inl flB))), ((pb9 3), .inl (ct 1, 21, .inr (.inl cvB))), ((pb9 4), .inl (ct 1, 21, .inr (.inl gtB))), ((pb9 5), .inl (ct 1, 21, .inr (.inl nhB))), ((pb9 6), .inl (ct 1, 21, .inr (.inl nfB))), ((pb9 7), .inl (ct 1, 21, .inr (.inl ncB)))]) t_Pipe i_Pipe t_Pipe_ok n_Pipe rfl hx hb hts hown hE hP hD hS rfl (by decide) x_185 rfl (by decide +kernel) (rfl) rfl (Nat.le_of_ble_eq_true rfl) rfl d_Pipe_copyFrom_45 (fun H locs hP hD hS => ?_)
  refine lv_aload_n hx hb d_Pipe_copyFrom_48 rfl (lv_at hl 1 rfl) ?_
  refine q_get 8 6 i_Pipe rfl hx hb hts hown hE hP rfl (by decide) x_186 rfl d_Pipe_copyFrom_49 ?_
  refine lv_aload_n hx hb d_Pipe_copyFrom_52 rfl (lv_at hl 0 rfl) ?_
  refine q_get 0 6 i_Pipe rfl hx hb hts hown hE hP rfl (by decide) x_186 rfl d_Pipe_copyFrom_53 ?_
  refine cWSN (As := [.ref (pb9 1), .ref (pa 1)]) (rest := []) K_X_copyRow_1 nw_786 hx hb hml hown hts hE hV hS (c_X_copyRow_1 l D ct st (pb9 1) (pa 1) 21 hdB hd (by omega) _) hP hD hA [9, 1] [0, 2, 3, 4, 5, 6, 7, 8, 10, 11, 12, 13, 14, 15] (wr := [((pa 0), .inr (2, [.int (nI ndB), .int (nI imB), .int (nI fr9B), .int (nI lo9B), .int (nI op9B), .int (nI rs9B), .ref (pa 1), .ref (pa 2), .ref (pa 3), .ref (pa 4), .ref (pa 5), .ref (pa 6), .ref (pa 7)])), ((pa 2), .inl (ct 1, 21, .inr (.inl fl))), ((pa 3), .inl (ct 1, 21, .inr (.inl cv))), ((pa 4), .inl (ct 1, 21, .inr (.inl gt))), ((pa 5), .inl (ct 1, 21, .inr (.inl nh))), ((pa 6), .inl (ct 1, 21, .inr (.inl nf))), ((pa 7), .inl (ct 1, 21, .inr (.inl nc))), ((pb9 0), .inr (2, [.int (nI ndB), .int (nI imB), .int (nI fr9B), .int (nI lo9B), .int (nI op9B), .int (nI rs9B), .ref (pb9 1), .ref (pb9 2), .ref (pb9 3), .ref (pb9 4), .ref (pb9 5), .ref (pb9 6), .ref (pb9 7)])), ((pb9 2), .inl (ct 1, 21, .inr (.inl flB))), ((pb9 3), .inl (ct 1, 21, .inr (.inl cvB))), ((pb9 4), .inl (ct 1, 21, .inr (.inl gtB))), ((pb9 5), .inl (ct 1, 21, .inr (.inl nhB))), ((pb9 6), .inl (ct 1, 21, .inr (.inl nfB))), ((pb9 7), .inl (ct 1, 21, .inr (.inl ncB)))]) rfl rfl (by decide) (by decide) (by decide) rfl hl.1 rfl (Nat.le_of_ble_eq_true rfl) d_Pipe_copyFrom_56 (Nat.le_of_ble_eq_true rfl) (Nat.le_of_ble_eq_true rfl) ⟨Nat.le_of_ble_eq_true rfl, Nat.le_of_ble_eq_true rfl⟩ (fun v W1 H locs hpost hP hD hS => ?_)
  obtain ⟨rfl, rfl, hq_56⟩ := hpost
  have hP : va_P D classes [((pa 0), .inr (2, [.int (nI ndB), .int (nI imB), .int (nI fr9B), .int (nI lo9B), .int (nI op9B), .int (nI rs9B), .ref (pa 1), .ref (pa 2), .ref (pa 3), .ref (pa 4), .ref (pa 5), .ref (pa 6), .ref (pa 7)])), ((pa 2), .inl (ct 1, 21, .inr (.inl fl))), ((pa 3), .inl (ct 1, 21, .inr (.inl cv))), ((pa 4), .inl (ct 1, 21, .inr (.inl gt))), ((pa 5), .inl (ct 1, 21, .inr (.inl nh))), ((pa 6), .inl (ct 1, 21, .inr (.inl nf))), ((pa 7), .inl (ct 1, 21, .inr (.inl nc))), ((pb9 0), .inr (2, [.int (nI ndB), .int (nI imB), .int (nI fr9B), .int (nI lo9B), .int (nI op9B), .int (nI rs9B), .ref (pb9 1), .ref (pb9 2), .ref (pb9 3), .ref (pb9 4), .ref (pb9 5), .ref (pb9 6), .ref (pb9 7)])), ((pb9 2), .inl (ct 1, 21, .inr (.inl flB))), ((pb9 3), .inl (ct 1, 21, .inr (.inl cvB))), ((pb9 4), .inl (ct 1, 21, .inr (.inl gtB))), ((pb9 5), .inl (ct 1, 21, .inr (.inl nhB))), ((pb9 6), .inl (ct 1, 21, .inr (.inl nfB))), ((pb9 7), .inl (ct 1, 21, .inr (.inl ncB))), ((pb9 1), .inl (ct 1, 21, .inr (.inl hdB))), ((pa 1), .inl (ct 1, 21, .inr (.inl (fun j => if j < 21 then hdB j else hd j))))] H := hP
  have hD : va_D A [((pa 0), .inr (2, [.int (nI ndB), .int (nI imB), .int (nI fr9B), .int (nI lo9B), .int (nI op9B), .int (nI rs9B), .ref (pa 1), .ref (pa 2), .ref (pa 3), .ref (pa 4), .ref (pa 5), .ref (pa 6), .ref (pa 7)])), ((pa 2), .inl (ct 1, 21, .inr (.inl fl))), ((pa 3), .inl (ct 1, 21, .inr (.inl cv))), ((pa 4), .inl (ct 1, 21, .inr (.inl gt))), ((pa 5), .inl (ct 1, 21, .inr (.inl nh))), ((pa 6), .inl (ct 1, 21, .inr (.inl nf))), ((pa 7), .inl (ct 1, 21, .inr (.inl nc))), ((pb9 0), .inr (2, [.int (nI ndB), .int (nI imB), .int (nI fr9B), .int (nI lo9B), .int (nI op9B), .int (nI rs9B), .ref (pb9 1), .ref (pb9 2), .ref (pb9 3), .ref (pb9 4), .ref (pb9 5), .ref (pb9 6), .ref (pb9 7)])), ((pb9 2), .inl (ct 1, 21, .inr (.inl flB))), ((pb9 3), .inl (ct 1, 21, .inr (.inl cvB))), ((pb9 4), .inl (ct 1, 21, .inr (.inl gtB))), ((pb9 5), .inl (ct 1, 21, .inr (.inl nhB))), ((pb9 6), .inl (ct 1, 21, .inr (.inl nfB))), ((pb9 7), .inl (ct 1, 21, .inr (.inl ncB))), ((pb9 1), .inl (ct 1, 21, .inr (.inl hdB))), ((pa 1), .inl (ct 1, 21, .inr (.inl (fun j => if j < 21 then hdB j else hd j))))] := hD
  refine lv_aload_n hx hb d_Pipe_copyFrom_59 rfl (lv_at hl 1 rfl) ?_
  refine q_get 7 7 i_Pipe rfl hx hb hts hown hE hP rfl (by decide) x_187 rfl d_Pipe_copyFrom_60 ?_
  refine lv_aload_n hx hb d_Pipe_copyFrom_63 rfl (lv_at hl 0 rfl) ?_
  refine q_get 0 7 i_Pipe rfl hx hb hts hown hE hP rfl (by decide) x_187 rfl d_Pipe_copyFrom_64 ?_
  refine cWSN (As := [.ref (pb9 2), .ref (pa 2)]) (rest := []) K_X_copyRow_1 nw_786 hx hb hml hown hts hE hV hS (c_X_copyRow_1 l D ct st (pb9 2) (pa 2) 21 flB fl (by omega) _) hP hD hA [8, 1] [0, 2, 3, 4, 5, 6, 7, 9, 10, 11, 12, 13, 14, 15] (wr := [((pa 0), .inr (2, [.int (nI ndB), .int (nI imB), .int (nI fr9B), .int (nI lo9B), .int (nI op9B), .int (nI rs9B), .ref (pa 1), .ref (pa 2), .ref (pa 3), .ref (pa 4), .ref (pa 5), .ref (pa 6), .ref (pa 7)])), ((pa 3), .inl (ct 1, 21, .inr (.inl cv))), ((pa 4), .inl (ct 1, 21, .inr (.inl gt))), ((pa 5), .inl (ct 1, 21, .inr (.inl nh))), ((pa 6), .inl (ct 1, 21, .inr (.inl nf))), ((pa 7), .inl (ct 1, 21, .inr (.inl nc))), ((pb9 0), .inr (2, [.int (nI ndB), .int (nI imB), .int (nI fr9B), .int (nI lo9B), .int (nI op9B), .int (nI rs9B), .ref (pb9 1), .ref (pb9 2), .ref (pb9 3), .ref (pb9 4), .ref (pb9 5), .ref (pb9 6), .ref (pb9 7)])), ((pb9 3), .inl (ct 1, 21, .inr (.inl cvB))), ((pb9 4), .inl (ct 1, 21, .inr (.inl gtB))), ((pb9 5), .inl (ct 1, 21, .inr (.inl nhB))), ((pb9 6), .inl (ct 1, 21, .inr (.inl nfB))), ((pb9 7), .inl (ct 1, 21, .inr (.inl ncB))), ((pb9 1), .inl (ct 1, 21, .inr (.inl hdB))), ((pa 1), .inl (ct 1, 21, .inr (.inl (fun j => if j < 21 then hdB j else hd j))))]) rfl rfl (by decide) (by decide) (by decide) rfl hl.1 rfl (Nat.le_of_ble_eq_true rfl) d_Pipe_copyFrom_67 (Nat.le_of_ble_eq_true rfl) (Nat.le_of_ble_eq_true rfl) ⟨Nat.le_of_ble_eq_true rfl, Nat.le_of_ble_eq_true rfl⟩ (fun v W1 H locs hpost hP hD hS => ?_)
  obtain ⟨rfl, rfl, hq_67⟩ := hpost
  have hP : va_P D classes [((pa 0), .inr (2, [.int (nI ndB), .int (nI imB), .int (nI fr9B), .int (nI lo9B), .int (nI op9B), .int (nI rs9B), .ref (pa 1), .ref (pa 2), .ref (pa 3), .ref (pa 4), .ref (pa 5), .ref (pa 6), .ref (pa 7)])), ((pa 3), .inl (ct 1, 21, .inr (.inl cv))), ((pa 4), .inl (ct 1, 21, .inr (.inl gt))), ((pa 5), .inl (ct 1, 21, .inr (.inl nh))), ((pa 6), .inl (ct 1, 21, .inr (.inl nf))), ((pa 7), .inl (ct 1, 21, .inr (.inl nc))), ((pb9 0), .inr (2, [.int (nI ndB), .int (nI imB), .int (nI fr9B), .int (nI lo9B), .int (nI op9B), .int (nI rs9B), .ref (pb9 1), .ref (pb9 2), .ref (pb9 3), .ref (pb9 4), .ref (pb9 5), .ref (pb9 6), .ref (pb9 7)])), ((pb9 3), .inl (ct 1, 21, .inr (.inl cvB))), ((pb9 4), .inl (ct 1, 21, .inr (.inl gtB))), ((pb9 5), .inl (ct 1, 21, .inr (.inl nhB))), ((pb9 6), .inl (ct 1, 21, .inr (.inl nfB))), ((pb9 7), .inl (ct 1, 21, .inr (.inl ncB))), ((pb9 1), .inl (ct 1, 21, .inr (.inl hdB))), ((pa 1), .inl (ct 1, 21, .inr (.inl (fun j => if j < 21 then hdB j else hd j)))), ((pb9 2), .inl (ct 1, 21, .inr (.inl flB))), ((pa 2), .inl (ct 1, 21, .inr (.inl (fun j => if j < 21 then flB j else fl j))))] H := hP
  have hD : va_D A [((pa 0), .inr (2, [.int (nI ndB), .int (nI imB), .int (nI fr9B), .int (nI lo9B), .int (nI op9B), .int (nI rs9B), .ref (pa 1), .ref (pa 2), .ref (pa 3), .ref (pa 4), .ref (pa 5), .ref (pa 6), .ref (pa 7)])), ((pa 3), .inl (ct 1, 21, .inr (.inl cv))), ((pa 4), .inl (ct 1, 21, .inr (.inl gt))), ((pa 5), .inl (ct 1, 21, .inr (.inl nh))), ((pa 6), .inl (ct 1, 21, .inr (.inl nf))), ((pa 7), .inl (ct 1, 21, .inr (.inl nc))), ((pb9 0), .inr (2, [.int (nI ndB), .int (nI imB), .int (nI fr9B), .int (nI lo9B), .int (nI op9B), .int (nI rs9B), .ref (pb9 1), .ref (pb9 2), .ref (pb9 3), .ref (pb9 4), .ref (pb9 5), .ref (pb9 6), .ref (pb9 7)])), ((pb9 3), .inl (ct 1, 21, .inr (.inl cvB))), ((pb9 4), .inl (ct 1, 21, .inr (.inl gtB))), ((pb9 5), .inl (ct 1, 21, .inr (.inl nhB))), ((pb9 6), .inl (ct 1, 21, .inr (.inl nfB))), ((pb9 7), .inl (ct 1, 21, .inr (.inl ncB))), ((pb9 1), .inl (ct 1, 21, .inr (.inl hdB))), ((pa 1), .inl (ct 1, 21, .inr (.inl (fun j => if j < 21 then hdB j else hd j)))), ((pb9 2), .inl (ct 1, 21, .inr (.inl flB))), ((pa 2), .inl (ct 1, 21, .inr (.inl (fun j => if j < 21 then flB j else fl j))))] := hD
  refine lv_aload_n hx hb d_Pipe_copyFrom_70 rfl (lv_at hl 1 rfl) ?_
  refine q_get 6 8 i_Pipe rfl hx hb hts hown hE hP rfl (by decide) x_188 rfl d_Pipe_copyFrom_71 ?_
  refine lv_aload_n hx hb d_Pipe_copyFrom_74 rfl (lv_at hl 0 rfl) ?_
  refine q_get 0 8 i_Pipe rfl hx hb hts hown hE hP rfl (by decide) x_188 rfl d_Pipe_copyFrom_75 ?_
  refine cWSN (As := [.ref (pb9 3), .ref (pa 3)]) (rest := []) K_X_copyRow_1 nw_786 hx hb hml hown hts hE hV hS (c_X_copyRow_1 l D ct st (pb9 3) (pa 3) 21 cvB cv (by omega) _) hP hD hA [7, 1] [0, 2, 3, 4, 5, 6, 8, 9, 10, 11, 12, 13, 14, 15] (wr := [((pa 0), .inr (2, [.int (nI ndB), .int (nI imB), .int (nI fr9B), .int (nI lo9B), .int (nI op9B), .int (nI rs9B), .ref (pa 1), .ref (pa 2), .ref (pa 3), .ref (pa 4), .ref (pa 5), .ref (pa 6), .ref (pa 7)])), ((pa 4), .inl (ct 1, 21, .inr (.inl gt))), ((pa 5), .inl (ct 1, 21, .inr (.inl nh))), ((pa 6), .inl (ct 1, 21, .inr (.inl nf))), ((pa 7), .inl (ct 1, 21, .inr (.inl nc))), ((pb9 0), .inr (2, [.int (nI ndB), .int (nI imB), .int (nI fr9B), .int (nI lo9B), .int (nI op9B), .int (nI rs9B), .ref (pb9 1), .ref (pb9 2), .ref (pb9 3), .ref (pb9 4), .ref (pb9 5), .ref (pb9 6), .ref (pb9 7)])), ((pb9 4), .inl (ct 1, 21, .inr (.inl gtB))), ((pb9 5), .inl (ct 1, 21, .inr (.inl nhB))), ((pb9 6), .inl (ct 1, 21, .inr (.inl nfB))), ((pb9 7), .inl (ct 1, 21, .inr (.inl ncB))), ((pb9 1), .inl (ct 1, 21, .inr (.inl hdB))), ((pa 1), .inl (ct 1, 21, .inr (.inl (fun j => if j < 21 then hdB j else hd j)))), ((pb9 2), .inl (ct 1, 21, .inr (.inl flB))), ((pa 2), .inl (ct 1, 21, .inr (.inl (fun j => if j < 21 then flB j else fl j))))]) rfl rfl (by decide) (by decide) (by decide) rfl hl.1 rfl (Nat.le_of_ble_eq_true rfl) d_Pipe_copyFrom_78 (Nat.le_of_ble_eq_true rfl) (Nat.le_of_ble_eq_true rfl) ⟨Nat.le_of_ble_eq_true rfl, Nat.le_of_ble_eq_true rfl⟩ (fun v W1 H locs hpost hP hD hS => ?_)
  obtain ⟨rfl, rfl, hq_78⟩ := hpost
  have hP : va_P D classes [((pa 0), .inr (2, [.int (nI ndB), .int (nI imB), .int (nI fr9B), .int (nI lo9B), .int (nI op9B), .int (nI rs9B), .ref (pa 1), .ref (pa 2), .ref (pa 3), .ref (pa 4), .ref (pa 5), .ref (pa 6), .ref (pa 7)])), ((pa 4), .inl (ct 1, 21, .inr (.inl gt))), ((pa 5), .inl (ct 1, 21, .inr (.inl nh))), ((pa 6), .inl (ct 1, 21, .inr (.inl nf))), ((pa 7), .inl (ct 1, 21, .inr (.inl nc))), ((pb9 0), .inr (2, [.int (nI ndB), .int (nI imB), .int (nI fr9B), .int (nI lo9B), .int (nI op9B), .int (nI rs9B), .ref (pb9 1), .ref (pb9 2), .ref (pb9 3), .ref (pb9 4), .ref (pb9 5), .ref (pb9 6), .ref (pb9 7)])), ((pb9 4), .inl (ct 1, 21, .inr (.inl gtB))), ((pb9 5), .inl (ct 1, 21, .inr (.inl nhB))), ((pb9 6), .inl (ct 1, 21, .inr (.inl nfB))), ((pb9 7), .inl (ct 1, 21, .inr (.inl ncB))), ((pb9 1), .inl (ct 1, 21, .inr (.inl hdB))), ((pa 1), .inl (ct 1, 21, .inr (.inl (fun j => if j < 21 then hdB j else hd j)))), ((pb9 2), .inl (ct 1, 21, .inr (.inl flB))), ((pa 2), .inl (ct 1, 21, .inr (.inl (fun j => if j < 21 then flB j else fl j)))), ((pb9 3), .inl (ct 1, 21, .inr (.inl cvB))), ((pa 3), .inl (ct 1, 21, .inr (.inl (fun j => if j < 21 then cvB j else cv j))))] H := hP
  have hD : va_D A [((pa 0), .inr (2, [.int (nI ndB), .int (nI imB), .int (nI fr9B), .int (nI lo9B), .int (nI op9B), .int (nI rs9B), .ref (pa 1), .ref (pa 2), .ref (pa 3), .ref (pa 4), .ref (pa 5), .ref (pa 6), .ref (pa 7)])), ((pa 4), .inl (ct 1, 21, .inr (.inl gt))), ((pa 5), .inl (ct 1, 21, .inr (.inl nh))), ((pa 6), .inl (ct 1, 21, .inr (.inl nf))), ((pa 7), .inl (ct 1, 21, .inr (.inl nc))), ((pb9 0), .inr (2, [.int (nI ndB), .int (nI imB), .int (nI fr9B), .int (nI lo9B), .int (nI op9B), .int (nI rs9B), .ref (pb9 1), .ref (pb9 2), .ref (pb9 3), .ref (pb9 4), .ref (pb9 5), .ref (pb9 6), .ref (pb9 7)])), ((pb9 4), .inl (ct 1, 21, .inr (.inl gtB))), ((pb9 5), .inl (ct 1, 21, .inr (.inl nhB))), ((pb9 6), .inl (ct 1, 21, .inr (.inl nfB))), ((pb9 7), .inl (ct 1, 21, .inr (.inl ncB))), ((pb9 1), .inl (ct 1, 21, .inr (.inl hdB))), ((pa 1), .inl (ct 1, 21, .inr (.inl (fun j => if j < 21 then hdB j else hd j)))), ((pb9 2), .inl (ct 1, 21, .inr (.inl flB))), ((pa 2), .inl (ct 1, 21, .inr (.inl (fun j => if j < 21 then flB j else fl j)))), ((pb9 3), .inl (ct 1, 21, .inr (.inl cvB))), ((pa 3), .inl (ct 1, 21, .inr (.inl (fun j => if j < 21 then cvB j else cv j))))] := hD
  refine lv_aload_n hx hb d_Pipe_copyFrom_81 rfl (lv_at hl 1 rfl) ?_
  refine q_get 5 9 i_Pipe rfl hx hb hts hown hE hP rfl (by decide) x_189 rfl d_Pipe_copyFrom_82 ?_
  refine lv_aload_n hx hb d_Pipe_copyFrom_85 rfl (lv_at hl 0 rfl) ?_
  refine q_get 0 9 i_Pipe rfl hx hb hts hown hE hP rfl (by decide) x_189 rfl d_Pipe_copyFrom_86 ?_
  refine cWSN (As := [.ref (pb9 4), .ref (pa 4)]) (rest := []) K_X_copyRow_1 nw_786 hx hb hml hown hts hE hV hS (c_X_copyRow_1 l D ct st (pb9 4) (pa 4) 21 gtB gt (by omega) _) hP hD hA [6, 1] [0, 2, 3, 4, 5, 7, 8, 9, 10, 11, 12, 13, 14, 15] (wr := [((pa 0), .inr (2, [.int (nI ndB), .int (nI imB), .int (nI fr9B), .int (nI lo9B), .int (nI op9B), .int (nI rs9B), .ref (pa 1), .ref (pa 2), .ref (pa 3), .ref (pa 4), .ref (pa 5), .ref (pa 6), .ref (pa 7)])), ((pa 5), .inl (ct 1, 21, .inr (.inl nh))), ((pa 6), .inl (ct 1, 21, .inr (.inl nf))), ((pa 7), .inl (ct 1, 21, .inr (.inl nc))), ((pb9 0), .inr (2, [.int (nI ndB), .int (nI imB), .int (nI fr9B), .int (nI lo9B), .int (nI op9B), .int (nI rs9B), .ref (pb9 1), .ref (pb9 2), .ref (pb9 3), .ref (pb9 4), .ref (pb9 5), .ref (pb9 6), .ref (pb9 7)])), ((pb9 5), .inl (ct 1, 21, .inr (.inl nhB))), ((pb9 6), .inl (ct 1, 21, .inr (.inl nfB))), ((pb9 7), .inl (ct 1, 21, .inr (.inl ncB))), ((pb9 1), .inl (ct 1, 21, .inr (.inl hdB))), ((pa 1), .inl (ct 1, 21, .inr (.inl (fun j => if j < 21 then hdB j else hd j)))), ((pb9 2), .inl (ct 1, 21, .inr (.inl flB))), ((pa 2), .inl (ct 1, 21, .inr (.inl (fun j => if j < 21 then flB j else fl j)))), ((pb9 3), .inl (ct 1, 21, .inr (.inl cvB))), ((pa 3), .inl (ct 1, 21, .inr (.inl (fun j => if j < 21 then cvB j else cv j))))]) rfl rfl (by decide) (by decide) (by decide) rfl hl.1 rfl (Nat.le_of_ble_eq_true rfl) d_Pipe_copyFrom_89 (Nat.le_of_ble_eq_true rfl) (Nat.le_of_ble_eq_true rfl) ⟨Nat.le_of_ble_eq_true rfl, Nat.le_of_ble_eq_true rfl⟩ (fun v W1 H locs hpost hP hD hS => ?_)
  obtain ⟨rfl, rfl, hq_89⟩ := hpost
  have hP : va_P D classes [((pa 0), .inr (2, [.int (nI ndB), .int (nI imB), .int (nI fr9B), .int (nI lo9B), .int (nI op9B), .int (nI rs9B), .ref (pa 1), .ref (pa 2), .ref (pa 3), .ref (pa 4), .ref (pa 5), .ref (pa 6), .ref (pa 7)])), ((pa 5), .inl (ct 1, 21, .inr (.inl nh))), ((pa 6), .inl (ct 1, 21, .inr (.inl nf))), ((pa 7), .inl (ct 1, 21, .inr (.inl nc))), ((pb9 0), .inr (2, [.int (nI ndB), .int (nI imB), .int (nI fr9B), .int (nI lo9B), .int (nI op9B), .int (nI rs9B), .ref (pb9 1), .ref (pb9 2), .ref (pb9 3), .ref (pb9 4), .ref (pb9 5), .ref (pb9 6), .ref (pb9 7)])), ((pb9 5), .inl (ct 1, 21, .inr (.inl nhB))), ((pb9 6), .inl (ct 1, 21, .inr (.inl nfB))), ((pb9 7), .inl (ct 1, 21, .inr (.inl ncB))), ((pb9 1), .inl (ct 1, 21, .inr (.inl hdB))), ((pa 1), .inl (ct 1, 21, .inr (.inl (fun j => if j < 21 then hdB j else hd j)))), ((pb9 2), .inl (ct 1, 21, .inr (.inl flB))), ((pa 2), .inl (ct 1, 21, .inr (.inl (fun j => if j < 21 then flB j else fl j)))), ((pb9 3), .inl (ct 1, 21, .inr (.inl cvB))), ((pa 3), .inl (ct 1, 21, .inr (.inl (fun j => if j < 21 then cvB j else cv j)))), ((pb9 4), .inl (ct 1, 21, .inr (.inl gtB))), ((pa 4), .inl (ct 1, 21, .inr (.inl (fun j => if j < 21 then gtB j else gt j))))] H := hP
  have hD : va_D A [((pa 0), .inr (2, [.int (nI ndB), .int (nI imB), .int (nI fr9B), .int (nI lo9B), .int (nI op9B), .int (nI rs9B), .ref (pa 1), .ref (pa 2), .ref (pa 3), .ref (pa 4), .ref (pa 5), .ref (pa 6), .ref (pa 7)])), ((pa 5), .inl (ct 1, 21, .inr (.inl nh))), ((pa 6), .inl (ct 1, 21, .inr (.inl nf))), ((pa 7), .inl (ct 1, 21, .inr (.inl nc))), ((pb9 0), .inr (2, [.int (nI ndB), .int (nI imB), .int (nI fr9B), .int (nI lo9B), .int (nI op9B), .int (nI rs9B), .ref (pb9 1), .ref (pb9 2), .ref (pb9 3), .ref (pb9 4), .ref (pb9 5), .ref (pb9 6), .ref (pb9 7)])), ((pb9 5), .inl (ct 1, 21, .inr (.inl nhB))), ((pb9 6), .inl (ct 1, 21, .inr (.inl nfB))), ((pb9 7), .inl (ct 1, 21, .inr (.inl ncB))), ((pb9 1), .inl (ct 1, 21, .inr (.inl hdB))), ((pa 1), .inl (ct 1, 21, .inr (.inl (fun j => if j < 21 then hdB j else hd j)))), ((pb9 2), .inl (ct 1, 21, .inr (.inl flB))), ((pa 2), .inl (ct 1, 21, .inr (.inl (fun j => if j < 21 then flB j else fl j)))), ((pb9 3), .inl (ct 1, 21, .inr (.inl cvB))), ((pa 3), .inl (ct 1, 21, .inr (.inl (fun j => if j < 21 then cvB j else cv j)))), ((pb9 4), .inl (ct 1, 21, .inr (.inl gtB))), ((pa 4), .inl (ct 1, 21, .inr (.inl (fun j => if j < 21 then gtB j else gt j))))] := hD
  exact rW_v hx hb hr hlk hAe hS (hP.sub (ws' := [((pa 0), .inr (2, [.int (nI ndB), .int (nI imB), .int (nI fr9B), .int (nI lo9B), .int (nI op9B), .int (nI rs9B), .ref (pa 1), .ref (pa 2), .ref (pa 3), .ref (pa 4), .ref (pa 5), .ref (pa 6), .ref (pa 7)])), ((pa 1), .inl (ct 1, 21, .inr (.inl (fun j => if j < 21 then hdB j else hd j)))), ((pa 2), .inl (ct 1, 21, .inr (.inl (fun j => if j < 21 then flB j else fl j)))), ((pa 3), .inl (ct 1, 21, .inr (.inl (fun j => if j < 21 then cvB j else cv j)))), ((pa 4), .inl (ct 1, 21, .inr (.inl (fun j => if j < 21 then gtB j else gt j)))), ((pa 5), .inl (ct 1, 21, .inr (.inl nh))), ((pa 6), .inl (ct 1, 21, .inr (.inl nf))), ((pa 7), .inl (ct 1, 21, .inr (.inl nc))), ((pb9 0), .inr (2, [.int (nI ndB), .int (nI imB), .int (nI fr9B), .int (nI lo9B), .int (nI op9B), .int (nI rs9B), .ref (pb9 1), .ref (pb9 2), .ref (pb9 3), .ref (pb9 4), .ref (pb9 5), .ref (pb9 6), .ref (pb9 7)])), ((pb9 1), .inl (ct 1, 21, .inr (.inl hdB))), ((pb9 2), .inl (ct 1, 21, .inr (.inl flB))), ((pb9 3), .inl (ct 1, 21, .inr (.inl cvB))), ((pb9 4), .inl (ct 1, 21, .inr (.inl gtB))), ((pb9 5), .inl (ct 1, 21, .inr (.inl nhB))), ((pb9 6), .inl (ct 1, 21, .inr (.inl nfB))), ((pb9 7), .inl (ct 1, 21, .inr (.inl ncB)))]) [0, 9, 11, 13, 15, 1, 2, 3, 4, 8, 10, 12, 14, 5, 6, 7] rfl) (hD.sub (ws' := [((pa 0), .inr (2, [.int (nI ndB), .int (nI imB), .int (nI fr9B), .int (nI lo9B), .int (nI op9B), .int (nI rs9B), .ref (pa 1), .ref (pa 2), .ref (pa 3), .ref (pa 4), .ref (pa 5), .ref (pa 6), .ref (pa 7)])), ((pa 1), .inl (ct 1, 21, .inr (.inl (fun j => if j < 21 then hdB j else hd j)))), ((pa 2), .inl (ct 1, 21, .inr (.inl (fun j => if j < 21 then flB j else fl j)))), ((pa 3), .inl (ct 1, 21, .inr (.inl (fun j => if j < 21 then cvB j else cv j)))), ((pa 4), .inl (ct 1, 21, .inr (.inl (fun j => if j < 21 then gtB j else gt j)))), ((pa 5), .inl (ct 1, 21, .inr (.inl nh))), ((pa 6), .inl (ct 1, 21, .inr (.inl nf))), ((pa 7), .inl (ct 1, 21, .inr (.inl nc))), ((pb9 0), .inr (2, [.int (nI ndB), .int (nI imB), .int (nI fr9B), .int (nI lo9B), .int (nI op9B), .int (nI rs9B), .ref (pb9 1), .ref (pb9 2), .ref (pb9 3), .ref (pb9 4), .ref (pb9 5), .ref (pb9 6), .ref (pb9 7)])), ((pb9 1), .inl (ct 1, 21, .inr (.inl hdB))), ((pb9 2), .inl (ct 1, 21, .inr (.inl flB))), ((pb9 3), .inl (ct 1, 21, .inr (.inl cvB))), ((pb9 4), .inl (ct 1, 21, .inr (.inl gtB))), ((pb9 5), .inl (ct 1, 21, .inr (.inl nhB))), ((pb9 6), .inl (ct 1, 21, .inr (.inl nfB))), ((pb9 7), .inl (ct 1, 21, .inr (.inl ncB)))]) [0, 9, 11, 13, 15, 1, 2, 3, 4, 8, 10, 12, 14, 5, 6, 7] (by decide) rfl) (Nat.le_of_ble_eq_true rfl) (Nat.le_of_ble_eq_true rfl) d_Pipe_copyFrom_92 ⟨rfl, rfl, trivial⟩
