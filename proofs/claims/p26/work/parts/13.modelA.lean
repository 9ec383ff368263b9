/-! several steps, one behind the other -/
def Chn (t : Int64) (g n lft rgt : Nat) (S : Nat → Int64) (k : Nat) (T : Nat → Int64) : Prop := ∃ X9 : Nat → (Nat → Int64), X9 0 = S ∧ X9 k = T ∧ ∀ j, j < k → sOk t g n lft rgt (X9 j) ∧ SStp t g n lft rgt (X9 j) (X9 (j + 1))
theorem Chn.zero {t : Int64} {g n lft rgt : Nat} {S : Nat → Int64} : Chn t g n lft rgt S 0 S := ⟨fun _ => S, rfl, rfl, fun j hj => absurd hj (Nat.not_lt_zero _)⟩
theorem Chn.ext {t : Int64} {g n lft rgt : Nat} {S T T1 : Nat → Int64} {k : Nat} (h : Chn t g n lft rgt S k T) (h1 : sOk t g n lft rgt T) (h2 : SStp t g n lft rgt T T1) : Chn t g n lft rgt S (k + 1) T1 := by
  obtain ⟨X9, a, b, c⟩ := h
  refine ⟨fun j => if j ≤ k then X9 j else T1, by simp [a], if_neg (show ¬ k + 1 ≤ k by omega), fun j hj => ?_⟩
  rcases Nat.lt_succ_iff_lt_or_eq.mp hj with q | rfl
  · have := c j q
    simp only [if_pos (show j ≤ k by omega), if_pos (show j + 1 ≤ k by omega)]
    exact this
  · simp only [if_pos (Nat.le_refl j), if_neg (show ¬ j + 1 ≤ j by omega), b]
    exact ⟨h1, h2⟩
theorem stp_mk {t : Int64} {g n lft rgt : Nat} {S s1 G R : Nat → Int64} {bu he : Int64} (hn : 2 ≤ n)
    (hA : (∀ b, b ≤ n → G b = w_g0 t g (sM S) (sP S) (sE S) n lft rgt b ∧ G (33 + b) = w_g1 t g (sM S) (sP S) (sE S) n lft rgt b ∧ G (66 + b) = w_g2 t g (sM S) (sP S) (sE S) n lft rgt b ∧ G (99 + b) = w_g3 t g (sM S) (sP S) (sE S) (sF S) n lft rgt b) ∧ (∀ j, j < n → R j = w_f0 t g (sM S) (sP S) (sE S) (sF S) n lft rgt j ∧ R (32 + j) = w_f1 t g (sM S) (sP S) (sE S) (sF S) n lft rgt j ∧ R (64 + j) = w_e2 t g (sM S) (sP S) (sE S) (sF S) n lft rgt (S 1) (S 2) (S 3) j ∧ R (96 + j) = w_f4 t g (sM S) (sP S) (sE S) (sF S) n lft rgt (S 1) (S 2) j) ∧ bu = w_sum (w_gn t g (sM S) (sP S) (sE S) (sF S) n lft rgt (S 1) (S 2)) n ∧ he = w_sum (fun j => w_gn t g (sM S) (sP S) (sE S) (sF S) n lft rgt (S 1) (S 2) j * S 3) n)
    (hB : (∀ j, j < n → s1 (8 + j) = R j ∧ s1 (40 + j) = R (32 + j) ∧ s1 (72 + j) = R (64 + j) ∧ s1 (104 + j) = R (96 + j)) ∧ s1 7 = S 7 + 1 ∧ (s1 136 = S 136 + (G 0 - G n) ∧ s1 137 = S 137 + (G 33 - G (33 + n)) ∧ s1 138 = S 138 + (G 66 - G (66 + n)) ∧ s1 139 = S 139 + (G 99 - G (99 + n))) ∧ (s1 140 = S 140 + he ∧ s1 141 = S 141 + bu) ∧ (∀ j, j < n → s1 (146 + j) = (if S (146 + j) < w_pres g (w_within (R j) (R (32 + j)) (R (64 + j))) then w_pres g (w_within (R j) (R (32 + j)) (R (64 + j))) else S (146 + j)) ∧ s1 (178 + j) = (if S (146 + j) < w_pres g (w_within (R j) (R (32 + j)) (R (64 + j))) then S 7 + 1 else S (178 + j))) ∧ ∀ j, j < 7 ∨ (142 ≤ j ∧ j < 146) ∨ 210 ≤ j → s1 j = S j) :
    SStp t g n lft rgt S s1 := by
  obtain ⟨a1, a2, a3, a4⟩ := hA
  obtain ⟨b1, b2, b3, b4, b5, b6⟩ := hB
  obtain ⟨z0, z1, z2, z3⟩ := a1 0 (by omega)
  obtain ⟨y0, y1, y2, y3⟩ := a1 n (by omega)
  refine ⟨fun j hj => ?_, b2, ?_, ?_, fun j hj => ?_, b6⟩
  · obtain ⟨q0, q1, q2, q3⟩ := b1 j hj
    obtain ⟨r0, r1, r2, r3⟩ := a2 j hj
    exact ⟨q0.trans r0, q1.trans r1, q2.trans r2, q3.trans r3⟩
  · rw [z0, y0, y1, y2, y3, show G 33 = _ from z1, show G 66 = _ from z2, show G 99 = _ from z3] at b3
    exact b3
  · rw [a3, a4] at b4
    exact b4
  · obtain ⟨q0, q1, q2, q3⟩ := b1 j hj
    have := b5 j hj
    rw [← q0, ← q1, ← q2] at this
    exact this
theorem w_inN {a lo hi : Nat} (h1 : lo ≤ a) (h2 : a ≤ hi) (h : hi < 2 ^ 31) : w_in (lN a) (lN lo) (lN hi) := ⟨(lN_le (by omega) (by omega)).mpr h1, (lN_le (by omega) (by omega)).mpr h2⟩

noncomputable def w_thr_step (a b c : Int64) : Int32 := @ite _ (w_in a 1 400 ∧ w_in b 1 50) (Classical.propDecidable _) (if 300 < c + b then 2 else 0) 1
