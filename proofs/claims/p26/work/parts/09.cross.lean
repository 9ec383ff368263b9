/-! the tube in numbers: masses M, momenta P, energies E, fuels F of its cells -/
abbrev sM (S : Nat → Int64) : Nat → Int64 := fun c => S (8 + c)
abbrev sP (S : Nat → Int64) : Nat → Int64 := fun c => S (40 + c)
abbrev sE (S : Nat → Int64) : Nat → Int64 := fun c => S (72 + c)
abbrev sF (S : Nat → Int64) : Nat → Int64 := fun c => S (104 + c)
def w_sp (M P : Nat → Int64) (k : Nat) : Int64 := fd (1000 * P k) (M k)
def w_pr (g : Nat) (M P E : Nat → Int64) (k : Nat) : Int64 := w_pres g (w_within (M k) (P k) (E k))
noncomputable def w_so (g : Nat) (M P E : Nat → Int64) (k : Nat) : Int64 := w_sound g (M k) (w_pr g M P E k)
noncomputable def w_fast (g : Nat) (M P E : Nat → Int64) (k : Nat) : Int64 := w_sz (w_sp M P k) + w_so g M P E k
def w_mq (g : Nat) (M P E : Nat → Int64) (k : Nat) : Int64 := fd (P k * P k) (M k) + w_pr g M P E k
def w_eq (g : Nat) (M P E : Nat → Int64) (k : Nat) : Int64 := fd ((E k + w_pr g M P E k) * P k) (M k)
def w_fu1 (M F : Nat → Int64) (a : Int64) (k : Nat) : Int64 := if fd (a * F k) (M k) ≤ F k then fd (a * F k) (M k) else F k
def w_fu (M F : Nat → Int64) (ma : Int64) (lf rg : Nat) : Int64 := if ma ≤ 0 then -(w_fu1 M F (w_sz ma) rg) else w_fu1 M F (w_sz ma) lf
def w_lf (b : Nat) : Nat := if b = 0 then 0 else b - 1
def w_rg (n b : Nat) : Nat := if b = n then n - 1 else b
abbrev w_wall (n lft rgt b : Nat) : Prop := (b = 0 ∧ lft = 1) ∨ (b = n ∧ rgt = 1)
def w_pick (a b : Int64) : Int64 := if a ≤ b then b else a
noncomputable def w_pace (g : Nat) (M P E : Nat → Int64) (n lft rgt b : Nat) : Int64 := w_pick (w_fast g M P E (w_lf b)) (if w_wall n lft rgt b then w_sz (fd ((-1000) * P (w_rg n b)) (M (w_rg n b))) + w_so g M P E (w_rg n b) else w_fast g M P E (w_rg n b))
def w_more (P : Nat → Int64) (n lft rgt b : Nat) : Int64 := if w_wall n lft rgt b then (if b = 0 then 2 * P 0 else (-2) * P (w_lf b)) else P (w_rg n b) - P (w_lf b)
noncomputable def w_g0 (t : Int64) (g : Nat) (M P E : Nat → Int64) (n lft rgt b : Nat) : Int64 := if w_wall n lft rgt b then 0 else w_over t (P (w_lf b) + P (w_rg n b)) (w_pace g M P E n lft rgt b) (M (w_rg n b) - M (w_lf b))
noncomputable def w_g1 (t : Int64) (g : Nat) (M P E : Nat → Int64) (n lft rgt b : Nat) : Int64 := w_over t (w_mq g M P E (w_lf b) + w_mq g M P E (w_rg n b)) (w_pace g M P E n lft rgt b) (w_more P n lft rgt b)
noncomputable def w_g2 (t : Int64) (g : Nat) (M P E : Nat → Int64) (n lft rgt b : Nat) : Int64 := if w_wall n lft rgt b then 0 else w_over t (w_eq g M P E (w_lf b) + w_eq g M P E (w_rg n b)) (w_pace g M P E n lft rgt b) (E (w_rg n b) - E (w_lf b))
noncomputable def w_g3 (t : Int64) (g : Nat) (M P E F : Nat → Int64) (n lft rgt b : Nat) : Int64 := w_fu M F (w_g0 t g M P E n lft rgt b) (w_lf b) (w_rg n b)
/-- a cell that may stand -/
def OkC (M P E F : Nat → Int64) (k : Nat) : Prop := (1 ≤ (M k).toInt ∧ (M k).toInt ≤ 1000000) ∧ (-50000000 ≤ (P k).toInt ∧ (P k).toInt ≤ 50000000) ∧ (0 ≤ (E k).toInt ∧ (E k).toInt ≤ 1000000000) ∧ 0 ≤ (w_within (M k) (P k) (E k)).toInt ∧ 0 ≤ (F k).toInt ∧ (F k).toInt ≤ (M k).toInt
theorem pres_rng {g : Nat} (h : g < 3) {w : Int64} (h0 : 0 ≤ w.toInt) (h1 : w.toInt ≤ 1000000000) : 0 ≤ (w_pres g w).toInt ∧ (w_pres g w).toInt ≤ 1000000000 := by
  have e2 : (2 * w).toInt = 2 * w.toInt := fb_mulL (x := 2) (by show _ ≤ 2 * w.toInt; omega) (by show 2 * w.toInt < _; omega)
  rcases g3 h with rfl | rfl | rfl
  · show 0 ≤ (fd (2 * w) 5).toInt ∧ (fd (2 * w) 5).toInt ≤ _
    rw [fd_toInt (by decide), e2, show (5 : Int64).toInt = 5 from rfl]
    omega
  · show 0 ≤ (fd (2 * w) 3).toInt ∧ (fd (2 * w) 3).toInt ≤ _
    rw [fd_toInt (by decide), e2, show (3 : Int64).toInt = 3 from rfl]
    omega
  · show 0 ≤ (fd w 3).toInt ∧ (fd w 3).toInt ≤ _
    rw [fd_toInt (by decide), show (3 : Int64).toInt = 3 from rfl]
    omega
theorem sq_rng {p : Int64} {K : Int} (h : -K ≤ p.toInt ∧ p.toInt ≤ K) (hK : 0 ≤ K ∧ K * K < 9223372036854775808) : (p * p).toInt = p.toInt * p.toInt ∧ 0 ≤ p.toInt * p.toInt ∧ p.toInt * p.toInt ≤ K * K := by
  have a1 : 0 ≤ p.toInt * p.toInt := by
    rcases Int.le_total 0 p.toInt with z | z
    · exact Int.mul_nonneg z z
    · exact Int.mul_nonneg_of_nonpos_of_nonpos z z
  have a2 : p.toInt * p.toInt ≤ K * K := by
    rcases Int.le_total 0 p.toInt with z | z
    · exact Int.mul_le_mul h.2 h.2 z hK.1
    · have := Int.mul_le_mul (show -p.toInt ≤ K by omega) (show -p.toInt ≤ K by omega) (show 0 ≤ -p.toInt by omega) hK.1
      rw [Int.neg_mul_neg] at this
      exact this
  exact ⟨fb_mulL (by omega) (by omega), a1, a2⟩
theorem two_m {m : Int64} (h : 1 ≤ m.toInt ∧ m.toInt ≤ 1000000) : (2 * m).toInt = 2 * m.toInt := fb_mulL (x := 2) (by show _ ≤ 2 * m.toInt; omega) (by show 2 * m.toInt < _; omega)
theorem within_rng {m p e : Int64} (hm : 1 ≤ m.toInt ∧ m.toInt ≤ 1000000) (hp : -3000000000 ≤ p.toInt ∧ p.toInt ≤ 3000000000) (he : -1000000000000000000 ≤ e.toInt ∧ e.toInt ≤ 1000000000000000000) : (w_within m p e).toInt = e.toInt - p.toInt * p.toInt / (2 * m.toInt) := by
  obtain ⟨s1, s2, s3⟩ := sq_rng (K := 3000000000) hp (by decide)
  have q1 : (fd (p * p) (2 * m)).toInt = p.toInt * p.toInt / (2 * m.toInt) := by rw [fd_toInt (by rw [two_m hm]; omega), s1, two_m hm]
  have q2 := Int.ediv_nonneg s2 (show 0 ≤ 2 * m.toInt by omega)
  have q3 : p.toInt * p.toInt / (2 * m.toInt) ≤ 4500000000000000000 := by
    have a1 : 2 * (p.toInt * p.toInt / (2 * m.toInt)) ≤ 2 * m.toInt * (p.toInt * p.toInt / (2 * m.toInt)) := Int.mul_le_mul_of_nonneg_right (by omega) q2
    have a2 := Int.mul_ediv_self_le (x := p.toInt * p.toInt) (k := 2 * m.toInt) (by omega)
    omega
  unfold w_within
  rw [fb_subL (by rw [q1]; omega) (by rw [q1]; omega), q1]
theorem OkC.pr {g : Nat} (hg : g < 3) {M P E F : Nat → Int64} {k : Nat} (h : OkC M P E F k) : 0 ≤ (w_pr g M P E k).toInt ∧ (w_pr g M P E k).toInt ≤ 1000000000 := by
  obtain ⟨h1, h2, h3, h4, h5⟩ := h
  have e := within_rng (m := M k) (p := P k) (e := E k) h1 ⟨by omega, by omega⟩ ⟨by omega, by omega⟩
  have q2 := Int.ediv_nonneg (sq_rng (K := 3000000000) (p := P k) ⟨by omega, by omega⟩ (by decide)).2.1 (show 0 ≤ 2 * (M k).toInt by omega)
  exact pres_rng hg h4 (by omega)
/-- what the tube's cells of the reference hold -/
def TS (S : Nat → Int64) (g n lft rgt : Nat) : Prop := g < 3 ∧ S 0 = lN g ∧ (2 ≤ n ∧ n ≤ 32) ∧ S 4 = lN n ∧ (lft ≤ 1 ∧ S 5 = lN lft) ∧ (rgt ≤ 1 ∧ S 6 = lN rgt) ∧ (0 ≤ (S 2).toInt ∧ (S 2).toInt ≤ 100) ∧ (0 ≤ (S 3).toInt ∧ (S 3).toInt ≤ 1000) ∧ ∀ c, c < n → OkC (sM S) (sP S) (sE S) (sF S) c
theorem lN1 {a : Nat} (h : a ≤ 1) : lN a = 1 ↔ a = 1 := by
  rw [show (1 : Int64) = lN 1 from rfl]; exact lN_eq (by omega) (by decide)

