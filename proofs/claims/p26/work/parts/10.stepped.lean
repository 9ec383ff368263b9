/-! one step in numbers -/
def w_good (m p e f : Int64) : Prop := w_in m 1 1000000 ∧ w_in f 0 m ∧ e ≤ 1000000000 ∧ 0 ≤ w_within m p e
theorem w_inm {m : Int64} (h : w_in m 1 1000000) : 1 ≤ m.toInt ∧ m.toInt ≤ 1000000 := ⟨Int64.le_iff_toInt_le.mp h.1, Int64.le_iff_toInt_le.mp h.2⟩
def w_gone (g : Nat) (ign part m p e f : Int64) : Int64 := if fd (100 * w_pres g (w_within m p e)) m < ign then 0 else fd (f * part) 100
noncomputable def w_f0 (t : Int64) (g : Nat) (M P E F : Nat → Int64) (n lft rgt c : Nat) : Int64 := M c + w_g0 t g M P E n lft rgt c - w_g0 t g M P E n lft rgt (c + 1)
noncomputable def w_f1 (t : Int64) (g : Nat) (M P E F : Nat → Int64) (n lft rgt c : Nat) : Int64 := P c + w_g1 t g M P E n lft rgt c - w_g1 t g M P E n lft rgt (c + 1)
noncomputable def w_f2 (t : Int64) (g : Nat) (M P E F : Nat → Int64) (n lft rgt c : Nat) : Int64 := E c + w_g2 t g M P E n lft rgt c - w_g2 t g M P E n lft rgt (c + 1)
noncomputable def w_f3 (t : Int64) (g : Nat) (M P E F : Nat → Int64) (n lft rgt c : Nat) : Int64 := F c + w_g3 t g M P E F n lft rgt c - w_g3 t g M P E F n lft rgt (c + 1)
noncomputable def w_gn (t : Int64) (g : Nat) (M P E F : Nat → Int64) (n lft rgt : Nat) (ign part : Int64) (c : Nat) : Int64 := w_gone g ign part (w_f0 t g M P E F n lft rgt c) (w_f1 t g M P E F n lft rgt c) (w_f2 t g M P E F n lft rgt c) (w_f3 t g M P E F n lft rgt c)
noncomputable def w_e2 (t : Int64) (g : Nat) (M P E F : Nat → Int64) (n lft rgt : Nat) (ign part heat : Int64) (c : Nat) : Int64 := w_f2 t g M P E F n lft rgt c + w_gn t g M P E F n lft rgt ign part c * heat
noncomputable def w_f4 (t : Int64) (g : Nat) (M P E F : Nat → Int64) (n lft rgt : Nat) (ign part : Int64) (c : Nat) : Int64 := w_f3 t g M P E F n lft rgt c - w_gn t g M P E F n lft rgt ign part c
def w_ok (t : Int64) (g : Nat) (M P E F : Nat → Int64) (n lft rgt : Nat) (ign part heat : Int64) : Prop := (∀ b, b ≤ n → t * w_pace g M P E n lft rgt b ≤ 500000) ∧ ∀ c, c < n → w_good (w_f0 t g M P E F n lft rgt c) (w_f1 t g M P E F n lft rgt c) (w_f2 t g M P E F n lft rgt c) (w_f3 t g M P E F n lft rgt c) ∧ w_good (w_f0 t g M P E F n lft rgt c) (w_f1 t g M P E F n lft rgt c) (w_e2 t g M P E F n lft rgt ign part heat c) (w_f4 t g M P E F n lft rgt ign part c)
def w_sum (f : Nat → Int64) : Nat → Int64
  | 0 => 0
  | n + 1 => w_sum f n + f n
theorem cr_step {G G1 : Nat → Int64} {n k : Nat} {T : Nat → Prop} {a0 a1 a2 a3 : Nat → Int64} (hk : k ≤ n) (hn : n ≤ 32) (h : ∀ b, b < k → T b ∧ G b = a0 b ∧ G (33 + b) = a1 b ∧ G (66 + b) = a2 b ∧ G (99 + b) = a3 b) (hT : T k) (h1 : G1 k = a0 k ∧ G1 (33 + k) = a1 k ∧ G1 (66 + k) = a2 k ∧ G1 (99 + k) = a3 k) (h2 : ∀ j, j ≠ k → j ≠ 33 + k → j ≠ 66 + k → j ≠ 99 + k → G1 j = G j) : ∀ b, b < k + 1 → T b ∧ G1 b = a0 b ∧ G1 (33 + b) = a1 b ∧ G1 (66 + b) = a2 b ∧ G1 (99 + b) = a3 b := by
  intro b hb
  rcases Nat.lt_succ_iff_lt_or_eq.mp hb with q | rfl
  · obtain ⟨q0, q1, q2, q3, q4⟩ := h b q
    exact ⟨q0, by rw [h2 _ (by omega) (by omega) (by omega) (by omega)]; exact q1, by rw [h2 _ (by omega) (by omega) (by omega) (by omega)]; exact q2, by rw [h2 _ (by omega) (by omega) (by omega) (by omega)]; exact q3, by rw [h2 _ (by omega) (by omega) (by omega) (by omega)]; exact q4⟩
  · exact ⟨hT, h1⟩
theorem ce_step {R R1 : Nat → Int64} {n i : Nat} {T : Nat → Prop} {a0 a1 a2 a3 : Nat → Int64} (hi : i < n) (hn : n ≤ 32) (h : ∀ j, j < i → T j ∧ R j = a0 j ∧ R (32 + j) = a1 j ∧ R (64 + j) = a2 j ∧ R (96 + j) = a3 j) (hT : T i) (h1 : R1 i = a0 i ∧ R1 (32 + i) = a1 i ∧ R1 (64 + i) = a2 i ∧ R1 (96 + i) = a3 i) (h2 : ∀ j, j ≠ i → j ≠ 32 + i → j ≠ 64 + i → j ≠ 96 + i → R1 j = R j) : ∀ j, j < i + 1 → T j ∧ R1 j = a0 j ∧ R1 (32 + j) = a1 j ∧ R1 (64 + j) = a2 j ∧ R1 (96 + j) = a3 j := by
  intro b hb
  rcases Nat.lt_succ_iff_lt_or_eq.mp hb with q | rfl
  · obtain ⟨q0, q1, q2, q3, q4⟩ := h b q
    exact ⟨q0, by rw [h2 _ (by omega) (by omega) (by omega) (by omega)]; exact q1, by rw [h2 _ (by omega) (by omega) (by omega) (by omega)]; exact q2, by rw [h2 _ (by omega) (by omega) (by omega) (by omega)]; exact q3, by rw [h2 _ (by omega) (by omega) (by omega) (by omega)]; exact q4⟩
  · exact ⟨hT, h1⟩
theorem fp_nn {m f part : Int64} (hm : w_in m 1 1000000) (hf : w_in f 0 m) (hp : 0 ≤ part.toInt ∧ part.toInt ≤ 100) : 0 ≤ (f * part).toInt := by
  have h1 := w_inm hm
  have h2 : 0 ≤ f.toInt := Int64.le_iff_toInt_le.mp hf.1
  have h3 : f.toInt ≤ m.toInt := Int64.le_iff_toInt_le.mp hf.2
  have a1 : 0 ≤ f.toInt * part.toInt := Int.mul_nonneg h2 hp.1
  have a2 : f.toInt * part.toInt ≤ 1000000 * 100 := Int.mul_le_mul (by omega) hp.2 hp.1 (by omega)
  rw [fb_mulL (by omega) (by omega)]
  exact a1

