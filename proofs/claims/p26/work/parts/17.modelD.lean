/-- the row of the reference -/
def fS (S Bf : Nat → Int64) : RF := fun a j => if a = 0 then (S (211 + j)).toInt else if a = 1 then (S (219 + j)).toInt else if a = 2 then (S (227 + j)).toInt else if a = 3 then (S (235 + j)).toInt else (Bf j).toInt
def oth (S1 S : Nat → Int64) : Prop := ∀ j, (j < 210 ∨ 243 ≤ j) → S1 j = S j
theorem oth.trans {S2 S1 S : Nat → Int64} (h : oth S2 S1) (k : oth S1 S) : oth S2 S := fun j hj => (h j hj).trans (k j hj)
theorem a5 {a : Nat} (h : a < 5) : a = 0 ∨ a = 1 ∨ a = 2 ∨ a = 3 ∨ a = 4 := by omega
def r_at (F : RF) (pl : Int) : Nat → Nat
  | 0 => 0
  | i + 1 => if F 1 i ≤ pl then i + 1 else r_at F pl i
theorem r_at_le (F : RF) (pl : Int) : ∀ i, r_at F pl i ≤ i
  | 0 => Nat.le_refl _
  | i + 1 => by
    have := r_at_le F pl i
    unfold r_at
    split <;> omega
theorem op_step {F G G1 : RF} {k cnt : Nat} (h0 : 0 < k) (hk : k ≤ cnt) (hc : cnt < 8) (hG : ∀ a j, a < 5 → j < 8 → G a j = if k < j ∧ j ≤ cnt then F a (j - 1) else F a j) (h1 : ∀ a j, a < 5 → j < 8 → G1 a j = if j = k then G a (k - 1) else G a j) : ∀ a j, a < 5 → j < 8 → G1 a j = if k - 1 < j ∧ j ≤ cnt then F a (j - 1) else F a j := by
  intro a j ha hj
  rw [h1 a j ha hj]
  by_cases q : j = k
  · rw [if_pos q, hG a (k - 1) ha (by omega), if_neg (by omega), if_pos (by omega), q]
  · rw [if_neg q, hG a j ha hj]
    by_cases q2 : k < j ∧ j ≤ cnt
    · rw [if_pos q2, if_pos (by omega)]
    · rw [if_neg q2, if_neg (by omega)]
theorem rm_step {F G G1 : RF} {k at9 : Nat} (hk : at9 ≤ k) (hc : k + 1 < 8) (hG : ∀ a j, a < 5 → j < 8 → G a j = if at9 ≤ j ∧ j < k then F a (j + 1) else F a j) (h1 : ∀ a j, a < 5 → j < 8 → G1 a j = if j = k then G a (k + 1) else G a j) : ∀ a j, a < 5 → j < 8 → G1 a j = if at9 ≤ j ∧ j < k + 1 then F a (j + 1) else F a j := by
  intro a j ha hj
  rw [h1 a j ha hj]
  by_cases q : j = k
  · rw [if_pos q, hG a (k + 1) ha (by omega), if_neg (by omega), if_pos (by omega), q]
  · rw [if_neg q, hG a j ha hj]
    by_cases q2 : at9 ≤ j ∧ j < k
    · rw [if_pos q2, if_pos (by omega)]
    · rw [if_neg q2, if_neg (by omega)]
theorem rm_end {F G : RF} {k at9 cnt : Nat} (hk : cnt ≤ k + 1) (hc : cnt ≤ 8) (hG : ∀ a j, a < 5 → j < 8 → G a j = if at9 ≤ j ∧ j < k then F a (j + 1) else F a j) : ∀ a j, a < 5 → j < cnt - 1 → G a j = r_rem F at9 a j := by
  intro a j ha hj
  rw [hG a j ha (by omega)]
  unfold r_rem
  by_cases q : j < at9
  · rw [if_neg (by omega), if_pos q]
  · rw [if_pos (by omega), if_neg q]
/-- the count is no cell of the row -/
theorem fS_cnt {S S1 Bf : Nat → Int64} {x : Int64} (h : S1 = vp_updL S 210 x) : fS S1 Bf = fS S Bf := by
  funext a j
  have e : ∀ k, k ≠ 210 → S1 k = S k := fun k hk => by rw [h]; exact pk_uLn hk
  unfold fS
  rw [e (211 + j) (by omega), e (219 + j) (by omega), e (227 + j) (by omega), e (235 + j) (by omega)]
theorem oth_cnt {S S1 : Nat → Int64} {x : Int64} (h : S1 = vp_updL S 210 x) : oth S1 S := fun j hj => by rw [h]; exact pk_uLn (by omega)
theorem r_new_fS {S Bf : Nat → Int64} {k a : Nat} (ha : a < 5) : r_new (S (211 + k)).toInt (S (219 + k)).toInt (S (227 + k)).toInt (S (235 + k)).toInt a = (if a = 4 then fS S Bf 1 k else fS S Bf a k) := by
  rcases a5 ha with rfl | rfl | rfl | rfl | rfl <;> simp [r_new, fS]

abbrev r_go (a b : Int64) : Prop := ¬ 0 < a.toInt * b.toInt
theorem r_go_iff {a b : Int64} : (a = 0 ∨ b = 0 ∨ ¬ (0 < a ↔ 0 < b)) → r_go a b := by
  intro h
  unfold r_go
  rw [show (0 < a ↔ 0 < b) ↔ (0 < a.toInt ↔ 0 < b.toInt) by rw [Int64.lt_iff_toInt_lt, Int64.lt_iff_toInt_lt]; exact Iff.rfl] at h
  rw [← Int64.toInt_inj, ← Int64.toInt_inj] at h
  rcases h with h | h | h
  · rw [h]; show ¬ 0 < 0 * _; rw [Int.zero_mul]; decide
  · rw [h]; show ¬ 0 < _ * 0; rw [Int.mul_zero]; decide
  · intro z
    apply h
    constructor
    · intro x; exact Int.pos_of_mul_pos_right (a := a.toInt) z x |> id
    · intro x; rw [Int.mul_comm] at z; exact Int.pos_of_mul_pos_right z x
theorem r_go_not {a b : Int64} (h1 : ¬ a = 0) (h2 : ¬ b = 0) (h : 0 < a ↔ 0 < b) : ¬ r_go a b := by
  unfold r_go
  rw [show (0 < a ↔ 0 < b) ↔ (0 < a.toInt ↔ 0 < b.toInt) by rw [Int64.lt_iff_toInt_lt, Int64.lt_iff_toInt_lt]; exact Iff.rfl] at h
  rw [← Int64.toInt_inj] at h1 h2
  have h1 : ¬ a.toInt = 0 := h1
  have h2 : ¬ b.toInt = 0 := h2
  intro z
  apply z
  rcases Int.lt_or_lt_of_ne h1 with q | q
  · have q2 : b.toInt < 0 := by
      rcases Int.lt_or_lt_of_ne h2 with r | r
      · exact r
      · exact absurd (h.mpr r) (by omega)
    exact Int.mul_pos_of_neg_of_neg q q2
  · exact Int.mul_pos q (h.mp q)
