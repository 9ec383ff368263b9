/-! the fronts in numbers: F a j: of the front j its kind (0), place (1), speed (2), strength (3), place before (4) -/
abbrev RF : Type := Nat → Nat → Int
def r_ins (F : RF) (at9 : Nat) (nw : Nat → Int) : RF := fun a j => if j < at9 then F a j else if j = at9 then nw a else F a (j - 1)
def r_rem (F : RF) (at9 : Nat) : RF := fun a j => if j < at9 then F a j else F a (j + 1)
def r_new (k p v t : Int) : Nat → Int := fun a => if a = 0 then k else if a = 1 then p else if a = 2 then v else if a = 3 then t else p
def r_two (F : RF) (k : Nat) (x y : Nat → Int) : RF := fun a j => if j = k then x a else if j = k + 1 then y a else F a j
def r_abs (x : Int) : Int := if x < 0 then -x else x
def r_min (x y : Int) : Int := if y < x then y else x
def r_hld (x : Int) : Int := if 900 < x then 900 else if x < -900 then -900 else x
abbrev mv_bey (F : RF) (i : Nat) : Prop := F 1 i + F 2 i < 0 ∨ 100000 < F 1 i + F 2 i
abbrev mv_st (F : RF) (i : Nat) : Prop := ¬ mv_bey F i ∨ F 0 i = 0
def mvf (F : RF) (i : Nat) : Nat → Int := fun a => if a = 0 then F 0 i else if a = 1 then (if F 1 i + F 2 i < 0 then 0 else if 100000 < F 1 i + F 2 i then 100000 else F 1 i + F 2 i) else if a = 2 then (if mv_bey F i then -(F 2 i) else F 2 i) else if a = 3 then (if mv_bey F i then r_min (3 * F 3 i / 2) 900 else F 3 i) else F 1 i
def mv (F : RF) : Nat → Nat × RF
  | 0 => (0, fun _ _ => 0)
  | i + 1 => if mv_st F i then ((mv F i).1 + 1, fun a j => if j = (mv F i).1 then mvf F i a else (mv F i).2 a j) else mv F i
abbrev mt_on (F : RF) (k : Nat) : Prop := F 1 (k + 1) < F 1 k ∨ (F 1 k = F 1 (k + 1) ∧ F 4 k < F 4 (k + 1))
def mt_pl (F : RF) (k : Nat) : Int := (F 1 k + F 1 (k + 1)) / 2
abbrev mt_thru (F : RF) (k : Nat) : Prop := ¬ 0 < F 2 k * F 2 (k + 1)
def mt_swap (F : RF) (k : Nat) : RF := r_two F k (r_new 0 (mt_pl F k) (F 2 (k + 1)) (F 3 (k + 1))) (r_new 0 (mt_pl F k) (F 2 k) (F 3 k))
def mt_merge (F : RF) (k : Nat) : Nat → Int := r_new 0 (mt_pl F k) ((F 2 k * F 3 k + F 2 (k + 1) * F 3 (k + 1)).tdiv (F 3 k + F 3 (k + 1))) (r_min (F 3 k + F 3 (k + 1)) 900)
def mt_st (F : RF) (x o : Nat) : Int := if F 0 o = 1 then (if 9 * F 3 x / 10 < 1 then 1 else 9 * F 3 x / 10) else F 3 x
def mt_sp (F : RF) (x o : Nat) : Int := r_hld (if F 0 o = 1 then F 2 o + (F 2 x).tdiv 10 else 2 * F 2 o)
def mt_pass (F : RF) (k : Nat) : RF := if F 0 k = 0 then r_two F k (r_new (F 0 (k + 1)) (mt_pl F k) (mt_sp F k (k + 1)) (F 3 (k + 1))) (r_new 0 (mt_pl F k) (F 2 k) (mt_st F k (k + 1)))
  else r_two F k (r_new 0 (mt_pl F k) (F 2 (k + 1)) (mt_st F (k + 1) k)) (r_new (F 0 k) (mt_pl F k) (mt_sp F (k + 1) k) (F 3 k))
def mt_gone (F : RF) (k : Nat) : Nat := if F 0 k = F 0 (k + 1) then (if F 3 k < F 3 (k + 1) then k else k + 1) else (if F 0 k = 2 then k else k + 1)
def mt_left (F : RF) (k : Nat) : RF := r_rem (r_two F k (r_new (F 0 k) (mt_pl F k) (F 2 k) (F 3 k)) (r_new (F 0 (k + 1)) (mt_pl F k) (F 2 (k + 1)) (F 3 (k + 1)))) (mt_gone F k)
/-- a meeting: how many there are then, the row, the right one of what is left -/
def mt (n : Nat) (F : RF) (k : Nat) : Nat × RF × Nat :=
  if F 0 k = 0 ∧ F 0 (k + 1) = 0 then
    (if mt_thru F k then (if F 3 k ≠ F 3 (k + 1) ∧ n < 8 then (n + 1, r_ins (mt_swap F k) (k + 1) (r_new 1 (mt_pl F k) ((F 2 k + F 2 (k + 1)).tdiv 10) (r_abs (F 3 k - F 3 (k + 1)))), k + 2) else (n, mt_swap F k, k + 1))
     else (n - 1, r_rem (r_two F k (mt_merge F k) (mt_merge F k)) (k + 1), k))
  else if F 0 k = 0 ∨ F 0 (k + 1) = 0 then (n, mt_pass F k, k + 1) else (n - 1, mt_left F k, k)
def lp : Nat → Nat → RF → Nat → Nat × RF
  | 0, n, G, _ => (n, G)
  | r + 1, n, G, k => if mt_on G k then lp r (mt n G k).1 (mt n G k).2.1 (mt n G k).2.2 else lp r n G (k + 1)
def tk1 (q : Nat × RF) : Nat × RF := lp ((mv q.2 q.1).1 - 1) (mv q.2 q.1).1 (mv q.2 q.1).2 0
def tkn : Nat → Nat × RF → Nat × RF
  | 0, q => q
  | t + 1, q => tk1 (tkn t q)
/-- a front that may stand -/
def FB1 (x : Nat → Int) : Prop := (0 ≤ x 0 ∧ x 0 ≤ 2) ∧ (0 ≤ x 1 ∧ x 1 ≤ 100000) ∧ (-900 ≤ x 2 ∧ x 2 ≤ 900) ∧ (1 ≤ x 3 ∧ x 3 ≤ 900)
def FB (n : Nat) (F : RF) : Prop := ∀ j, j < n → (0 ≤ F 0 j ∧ F 0 j ≤ 2) ∧ (0 ≤ F 1 j ∧ F 1 j ≤ 100000) ∧ (-900 ≤ F 2 j ∧ F 2 j ≤ 900) ∧ (1 ≤ F 3 j ∧ F 3 j ≤ 900)
def Ag (n : Nat) (F G : RF) : Prop := ∀ a j, a < 5 → j < n → F a j = G a j
def Ag4 (n : Nat) (F G : RF) : Prop := ∀ a j, a < 4 → j < n → F a j = G a j
theorem Ag.four {n : Nat} {F G : RF} (h : Ag n F G) : Ag4 n F G := fun a j ha hj => h a j (by omega) hj
theorem Ag.trans {n : Nat} {F G K : RF} (h : Ag n F G) (k : Ag n G K) : Ag n F K := fun a j ha hj => (h a j ha hj).trans (k a j ha hj)
theorem Ag.symm {n : Nat} {F G : RF} (h : Ag n F G) : Ag n G F := fun a j ha hj => (h a j ha hj).symm
theorem FB.cong {n : Nat} {F G : RF} (h : FB n F) (k : Ag4 n F G) : FB n G := by
  intro j hj
  have := h j hj
  rw [← k 0 j (by omega) hj, ← k 1 j (by omega) hj, ← k 2 j (by omega) hj, ← k 3 j (by omega) hj]
  exact this
theorem mvf_cong {n : Nat} {F G : RF} (h : Ag4 n F G) {i : Nat} (hi : i < n) (a : Nat) : mvf F i a = mvf G i a := by
  unfold mvf mv_bey
  rw [h 0 i (by omega) hi, h 1 i (by omega) hi, h 2 i (by omega) hi, h 3 i (by omega) hi]
theorem mv_cong {n : Nat} {F G : RF} (h : Ag4 n F G) : ∀ i, i ≤ n → mv F i = mv G i
  | 0, _ => rfl
  | i + 1, hi => by
    have ih := mv_cong h i (by omega)
    have e : mv_st F i ↔ mv_st G i := by
      unfold mv_st mv_bey
      rw [h 0 i (by omega) (by omega), h 1 i (by omega) (by omega), h 2 i (by omega) (by omega)]
    have e2 : mvf F i = mvf G i := funext (mvf_cong h (by omega))
    show (if mv_st F i then _ else _) = (if mv_st G i then _ else _)
    rw [ih, e2]
    by_cases c : mv_st F i
    · rw [if_pos c, if_pos (e.mp c)]
    · rw [if_neg c, if_neg (fun z => c (e.mpr z))]
theorem mv_le (F : RF) : ∀ i, (mv F i).1 ≤ i
  | 0 => Nat.le_refl _
  | i + 1 => by
    have ih := mv_le F i
    show (if mv_st F i then _ else _ : Nat × RF).1 ≤ _
    split
    · show _ + 1 ≤ _; omega
    · omega
theorem FB1.new {k p v t : Int} (h : (0 ≤ k ∧ k ≤ 2) ∧ (0 ≤ p ∧ p ≤ 100000) ∧ (-900 ≤ v ∧ v ≤ 900) ∧ (1 ≤ t ∧ t ≤ 900)) : FB1 (r_new k p v t) := h
theorem mvf_FB {F : RF} {i : Nat} (h : (0 ≤ F 0 i ∧ F 0 i ≤ 2) ∧ (0 ≤ F 1 i ∧ F 1 i ≤ 100000) ∧ (-900 ≤ F 2 i ∧ F 2 i ≤ 900) ∧ (1 ≤ F 3 i ∧ F 3 i ≤ 900)) : FB1 (mvf F i) := by
  obtain ⟨h0, h1, h2, h3⟩ := h
  unfold FB1 mvf
  simp only [if_true, if_false, show ¬ (1 : Nat) = 0 from by decide, show ¬ (2 : Nat) = 0 from by decide, show ¬ (3 : Nat) = 0 from by decide, show ¬ (2 : Nat) = 1 from by decide, show ¬ (3 : Nat) = 1 from by decide, show ¬ (3 : Nat) = 2 from by decide]
  refine ⟨h0, ?_, ?_, ?_⟩
  · split
    · omega
    · split <;> omega
  · split <;> omega
  · split
    · unfold r_min; split <;> omega
    · exact h3
theorem mv_FB {n : Nat} {F : RF} (h : FB n F) : ∀ i, i ≤ n → FB (mv F i).1 (mv F i).2
  | 0, _ => fun j hj => absurd hj (Nat.not_lt_zero _)
  | i + 1, hi => by
    have ih := mv_FB h i (by omega)
    have e : mv F (i + 1) = if mv_st F i then ((mv F i).1 + 1, fun a j => if j = (mv F i).1 then mvf F i a else (mv F i).2 a j) else mv F i := rfl
    by_cases c : mv_st F i
    · rw [e, if_pos c]
      intro j hj
      have hj : j < (mv F i).1 + 1 := hj
      by_cases q : j = (mv F i).1
      · show FB1 (fun a => if j = (mv F i).1 then mvf F i a else (mv F i).2 a j)
        rw [q]
        simp only [if_true]
        exact mvf_FB (h i (by omega))
      · show FB1 (fun a => if j = (mv F i).1 then mvf F i a else (mv F i).2 a j)
        simp only [if_neg q]
        exact ih j (by omega)
    · rw [e, if_neg c]
      exact ih
theorem mv_ah {F : RF} {n : Nat} (h : FB n F) : ∀ i, i ≤ n → ∀ j, j < (mv F i).1 → 0 ≤ (mv F i).2 4 j ∧ (mv F i).2 4 j ≤ 100000
  | 0, _, j, hj => absurd hj (Nat.not_lt_zero _)
  | i + 1, hi, j, hj => by
    have ih := mv_ah h i (by omega)
    have e : mv F (i + 1) = if mv_st F i then ((mv F i).1 + 1, fun a j => if j = (mv F i).1 then mvf F i a else (mv F i).2 a j) else mv F i := rfl
    by_cases c : mv_st F i
    · rw [e, if_pos c] at hj ⊢
      have hj : j < (mv F i).1 + 1 := hj
      by_cases q : j = (mv F i).1
      · show 0 ≤ (if j = (mv F i).1 then mvf F i 4 else _) ∧ (if j = (mv F i).1 then mvf F i 4 else _) ≤ _
        rw [if_pos q]
        exact (h i (by omega)).2.1
      · show 0 ≤ (if j = (mv F i).1 then mvf F i 4 else (mv F i).2 4 j) ∧ (if j = (mv F i).1 then mvf F i 4 else (mv F i).2 4 j) ≤ _
        rw [if_neg q]
        exact ih j (by omega)
    · rw [e, if_neg c] at hj ⊢
      exact ih j hj
theorem two_FB {n : Nat} {F : RF} {k : Nat} {x y : Nat → Int} (h : FB n F) (hx : FB1 x) (hy : FB1 y) : FB n (r_two F k x y) := by
  intro j hj
  unfold r_two
  by_cases q : j = k
  · simp only [if_pos q]; exact hx
  · by_cases q2 : j = k + 1
    · simp only [if_neg q, if_pos q2]; exact hy
    · simp only [if_neg q, if_neg q2]; exact h j hj
theorem rem_FB {n : Nat} {F : RF} (k : Nat) (h : FB n F) : FB (n - 1) (r_rem F k) := by
  intro j hj
  unfold r_rem
  by_cases q : j < k
  · simp only [if_pos q]; exact h j (by omega)
  · simp only [if_neg q]; exact h (j + 1) (by omega)
theorem ins_FB {n : Nat} {F : RF} {k : Nat} (hk : k ≤ n) {x : Nat → Int} (h : FB n F) (hx : FB1 x) : FB (n + 1) (r_ins F k x) := by
  intro j hj
  unfold r_ins
  by_cases q : j < k
  · simp only [if_pos q]; exact h j (by omega)
  · by_cases q2 : j = k
    · simp only [if_neg q, if_pos q2]; exact hx
    · simp only [if_neg q, if_neg q2]; exact h (j - 1) (by omega)
theorem two_Ag {n : Nat} {F G : RF} (h : Ag n F G) (k : Nat) (x y : Nat → Int) : Ag n (r_two F k x y) (r_two G k x y) := by
  intro a j ha hj
  unfold r_two
  rw [h a j ha hj]
theorem rem_Ag {n : Nat} {F G : RF} (h : Ag n F G) (k : Nat) : Ag (n - 1) (r_rem F k) (r_rem G k) := by
  intro a j ha hj
  unfold r_rem
  rw [h a j ha (by omega), h a (j + 1) ha (by omega)]
theorem ins_Ag {n : Nat} {F G : RF} {k : Nat} (hk : k ≤ n) (h : Ag n F G) (x : Nat → Int) : Ag (n + 1) (r_ins F k x) (r_ins G k x) := by
  intro a j ha hj
  unfold r_ins
  by_cases q : j < k
  · rw [if_pos q, if_pos q, h a j ha (by omega)]
  · rw [if_neg q, if_neg q]
    by_cases q2 : j = k
    · rw [if_pos q2, if_pos q2]
    · rw [if_neg q2, if_neg q2, h a (j - 1) ha (by omega)]
theorem mt_cong {n : Nat} {F G : RF} {k : Nat} (h : Ag n F G) (hk : k + 1 < n) : (mt n F k).1 = (mt n G k).1 ∧ (mt n F k).2.2 = (mt n G k).2.2 ∧ Ag (mt n F k).1 (mt n F k).2.1 (mt n G k).2.1 := by
  have a0 := h 0 k (by decide) (by omega)
  have a1 := h 1 k (by decide) (by omega)
  have a2 := h 2 k (by decide) (by omega)
  have a3 := h 3 k (by decide) (by omega)
  have b0 := h 0 (k + 1) (by decide) hk
  have b1 := h 1 (k + 1) (by decide) hk
  have b2 := h 2 (k + 1) (by decide) hk
  have b3 := h 3 (k + 1) (by decide) hk
  have ep : mt_pl F k = mt_pl G k := by unfold mt_pl; rw [a1, b1]
  have es : mt_swap F k = r_two F k (r_new 0 (mt_pl G k) (G 2 (k + 1)) (G 3 (k + 1))) (r_new 0 (mt_pl G k) (G 2 k) (G 3 k)) := by unfold mt_swap; rw [ep, a2, a3, b2, b3]
  have em : mt_merge F k = mt_merge G k := by unfold mt_merge; rw [ep, a2, a3, b2, b3]
  have eg : mt_gone F k = mt_gone G k := by unfold mt_gone; rw [a0, b0, a3, b3]
  have et : mt_thru F k ↔ mt_thru G k := by unfold mt_thru; rw [a2, b2]
  have e1 : mt_st F k (k + 1) = mt_st G k (k + 1) := by unfold mt_st; rw [b0, a3]
  have e2 : mt_st F (k + 1) k = mt_st G (k + 1) k := by unfold mt_st; rw [a0, b3]
  have e3 : mt_sp F k (k + 1) = mt_sp G k (k + 1) := by unfold mt_sp; rw [b0, a2, b2]
  have e4 : mt_sp F (k + 1) k = mt_sp G (k + 1) k := by unfold mt_sp; rw [a0, a2, b2]
  unfold mt
  rw [a0, b0]
  by_cases c : G 0 k = 0 ∧ G 0 (k + 1) = 0
  · rw [if_pos c, if_pos c]
    by_cases d : mt_thru G k
    · rw [if_pos (et.mpr d), if_pos d, a3, b3]
      by_cases f : G 3 k ≠ G 3 (k + 1) ∧ n < 8
      · rw [if_pos f, if_pos f]
        refine ⟨rfl, rfl, ?_⟩
        show Ag (n + 1) (r_ins (mt_swap F k) (k + 1) _) (r_ins (mt_swap G k) (k + 1) _)
        rw [es, ep, a2, b2]
        exact ins_Ag (by omega) (two_Ag h k _ _) _
      · rw [if_neg f, if_neg f]
        refine ⟨rfl, rfl, ?_⟩
        show Ag n (mt_swap F k) (mt_swap G k)
        rw [es]
        exact two_Ag h k _ _
    · rw [if_neg (fun z => d (et.mp z)), if_neg d]
      refine ⟨rfl, rfl, ?_⟩
      show Ag (n - 1) (r_rem (r_two F k (mt_merge F k) (mt_merge F k)) (k + 1)) (r_rem (r_two G k (mt_merge G k) (mt_merge G k)) (k + 1))
      rw [em]
      exact rem_Ag (two_Ag h k _ _) _
  · rw [if_neg c, if_neg c]
    by_cases d : G 0 k = 0 ∨ G 0 (k + 1) = 0
    · rw [if_pos d, if_pos d]
      refine ⟨rfl, rfl, ?_⟩
      show Ag n (mt_pass F k) (mt_pass G k)
      unfold mt_pass
      rw [a0, b0, ep, e1, e2, e3, e4, a2, b2, a3, b3]
      split
      · exact two_Ag h k _ _
      · exact two_Ag h k _ _
    · rw [if_neg d, if_neg d]
      refine ⟨rfl, rfl, ?_⟩
      show Ag (n - 1) (mt_left F k) (mt_left G k)
      unfold mt_left
      rw [eg, ep, a0, b0, a2, b2, a3, b3]
      exact rem_Ag (two_Ag h k _ _) _
theorem mt_ix {n : Nat} {F : RF} {k : Nat} (hk : k + 1 < n) (hn : n ≤ 8) : k ≤ (mt n F k).2.2 ∧ (mt n F k).2.2 ≤ k + 2 ∧ (mt n F k).1 + k + 1 = n + (mt n F k).2.2 ∧ (mt n F k).1 ≤ 8 := by
  unfold mt
  split
  · split
    · split
      · rename_i h; exact ⟨by show k ≤ k + 2; omega, Nat.le_refl _, by show n + 1 + k + 1 = n + (k + 2); omega, by show n + 1 ≤ 8; omega⟩
      · exact ⟨by show k ≤ k + 1; omega, by show k + 1 ≤ k + 2; omega, by show n + k + 1 = n + (k + 1); omega, hn⟩
    · exact ⟨Nat.le_refl _, by show k ≤ k + 2; omega, by show n - 1 + k + 1 = n + k; omega, by show n - 1 ≤ 8; omega⟩
  · split
    · exact ⟨by show k ≤ k + 1; omega, by show k + 1 ≤ k + 2; omega, by show n + k + 1 = n + (k + 1); omega, hn⟩
    · exact ⟨Nat.le_refl _, by show k ≤ k + 2; omega, by show n - 1 + k + 1 = n + k; omega, by show n - 1 ≤ 8; omega⟩
theorem tdiv_bd {a b K : Int} (hb : 0 < b) (h : -(K * b) ≤ a ∧ a ≤ K * b) : -K ≤ a.tdiv b ∧ a.tdiv b ≤ K := by
  rcases Int.lt_or_le a 0 with z | z
  · have e : a.tdiv b = -((-a) / b) := by
      rw [show a = -(-a) by omega, Int.neg_tdiv, Int.tdiv_eq_ediv_of_nonneg (by omega), Int.neg_neg]
    have h1 : (-a) / b ≤ K := Int.ediv_le_of_le_mul hb (by omega)
    have h2 := Int.ediv_nonneg (show 0 ≤ -a by omega) (show 0 ≤ b by omega)
    omega
  · rw [Int.tdiv_eq_ediv_of_nonneg z]
    have h1 : a / b ≤ K := Int.ediv_le_of_le_mul hb h.2
    have h2 := Int.ediv_nonneg z (show 0 ≤ b by omega)
    omega
theorem wmean {v t w u : Int} (h1 : -900 ≤ v ∧ v ≤ 900) (h2 : 1 ≤ t ∧ t ≤ 900) (h3 : -900 ≤ w ∧ w ≤ 900) (h4 : 1 ≤ u ∧ u ≤ 900) : (-810000 ≤ v * t ∧ v * t ≤ 810000) ∧ (-810000 ≤ w * u ∧ w * u ≤ 810000) ∧ -900 ≤ (v * t + w * u).tdiv (t + u) ∧ (v * t + w * u).tdiv (t + u) ≤ 900 := by
  have a1 := Int.mul_le_mul_of_nonneg_right h1.2 (show 0 ≤ t by omega)
  have a2 := Int.mul_le_mul_of_nonneg_right h1.1 (show 0 ≤ t by omega)
  have b1 := Int.mul_le_mul_of_nonneg_right h3.2 (show 0 ≤ u by omega)
  have b2 := Int.mul_le_mul_of_nonneg_right h3.1 (show 0 ≤ u by omega)
  have := tdiv_bd (a := v * t + w * u) (b := t + u) (K := 900) (by omega) ⟨by omega, by omega⟩
  exact ⟨⟨by omega, by omega⟩, ⟨by omega, by omega⟩, this.1, this.2⟩
theorem hld_rng (x : Int) : -900 ≤ r_hld x ∧ r_hld x ≤ 900 := by
  unfold r_hld
  split
  · omega
  · split <;> omega
theorem mt_FB {n : Nat} {F : RF} {k : Nat} (h : FB n F) (hk : k + 1 < n) : FB (mt n F k).1 (mt n F k).2.1 := by
  obtain ⟨p0, p1, p2, p3⟩ := h k (by omega)
  obtain ⟨q0, q1, q2, q3⟩ := h (k + 1) hk
  have hp : 0 ≤ mt_pl F k ∧ mt_pl F k ≤ 100000 := by unfold mt_pl; omega
  unfold mt
  split
  · split
    · have hs : FB n (mt_swap F k) := two_FB h (FB1.new ⟨by omega, hp, q2, q3⟩) (FB1.new ⟨by omega, hp, p2, p3⟩)
      split
      · rename_i c
        have := tdiv_bd (a := F 2 k + F 2 (k + 1)) (b := 10) (K := 180) (by omega) ⟨by omega, by omega⟩
        refine ins_FB (by omega) hs (FB1.new ⟨by omega, hp, by omega, ?_⟩)
        unfold r_abs
        split <;> omega
      · exact hs
    · have hm : FB1 (mt_merge F k) := by
        have := wmean p2 p3 q2 q3
        refine FB1.new ⟨by omega, hp, this.2.2, ?_⟩
        unfold r_min
        split <;> omega
      exact rem_FB _ (two_FB h hm hm)
  · have st : ∀ x o, (1 ≤ F 3 x ∧ F 3 x ≤ 900) → 1 ≤ mt_st F x o ∧ mt_st F x o ≤ 900 := by
      intro x o hx
      unfold mt_st
      split
      · split <;> omega
      · exact hx
    have sp : ∀ x o, -900 ≤ mt_sp F x o ∧ mt_sp F x o ≤ 900 := fun x o => hld_rng _
    split
    · show FB n (mt_pass F k)
      unfold mt_pass
      split
      · exact two_FB h (FB1.new ⟨q0, hp, sp _ _, q3⟩) (FB1.new ⟨by omega, hp, p2, st _ _ p3⟩)
      · exact two_FB h (FB1.new ⟨by omega, hp, q2, st _ _ q3⟩) (FB1.new ⟨p0, hp, sp _ _, p3⟩)
    · exact rem_FB _ (two_FB h (FB1.new ⟨p0, hp, p2, p3⟩) (FB1.new ⟨q0, hp, q2, q3⟩))
theorem lp_cong : ∀ (r n : Nat) (F G : RF) (k : Nat), Ag n F G → k + r + 1 = n → n ≤ 8 → (lp r n F k).1 = (lp r n G k).1 ∧ Ag (lp r n F k).1 (lp r n F k).2 (lp r n G k).2
  | 0, n, F, G, k, h, _, _ => ⟨rfl, h⟩
  | r + 1, n, F, G, k, h, hr, hn => by
    have e : mt_on F k ↔ mt_on G k := by
      unfold mt_on
      rw [h 1 k (by decide) (by omega), h 1 (k + 1) (by decide) (by omega), h 4 k (by decide) (by omega), h 4 (k + 1) (by decide) (by omega)]
    show (if mt_on F k then _ else _ : Nat × RF).1 = (if mt_on G k then _ else _ : Nat × RF).1 ∧ Ag (if mt_on F k then _ else _ : Nat × RF).1 (if mt_on F k then _ else _ : Nat × RF).2 (if mt_on G k then _ else _ : Nat × RF).2
    by_cases c : mt_on G k
    · rw [if_pos (e.mpr c), if_pos c]
      obtain ⟨c1, c2, c3⟩ := mt_cong h (show k + 1 < n by omega)
      obtain ⟨x1, x2, x3, x4⟩ := mt_ix (F := F) (show k + 1 < n by omega) hn
      have := lp_cong r (mt n F k).1 (mt n F k).2.1 (mt n G k).2.1 (mt n F k).2.2 c3 (by omega) x4
      rw [← c1, ← c2]
      exact this
    · rw [if_neg (fun z => c (e.mp z)), if_neg c]
      exact lp_cong r n F G (k + 1) h (by omega) hn
theorem lp_FB : ∀ (r n : Nat) (F : RF) (k : Nat), FB n F → k + r + 1 = n → n ≤ 8 → FB (lp r n F k).1 (lp r n F k).2 ∧ (lp r n F k).1 ≤ 8
  | 0, n, F, k, h, _, hn => ⟨h, hn⟩
  | r + 1, n, F, k, h, hr, hn => by
    show FB (if mt_on F k then _ else _ : Nat × RF).1 (if mt_on F k then _ else _ : Nat × RF).2 ∧ (if mt_on F k then _ else _ : Nat × RF).1 ≤ 8
    split
    · obtain ⟨x1, x2, x3, x4⟩ := mt_ix (F := F) (show k + 1 < n by omega) hn
      exact lp_FB r _ _ _ (mt_FB h (by omega)) (by omega) x4
    · exact lp_FB r n F (k + 1) h (by omega) hn
theorem lp_zero (n : Nat) (F : RF) : lp (0 - 1) n F 0 = (n, F) := rfl
theorem tk1_cong {n : Nat} {F G : RF} (h : Ag4 n F G) (hn : n ≤ 8) : tk1 (n, F) = tk1 (n, G) := by
  unfold tk1
  show lp ((mv F n).1 - 1) (mv F n).1 (mv F n).2 0 = lp ((mv G n).1 - 1) (mv G n).1 (mv G n).2 0
  rw [mv_cong h n (Nat.le_refl _)]
theorem tk1_FB {n : Nat} {F : RF} (h : FB n F) (hn : n ≤ 8) : FB (tk1 (n, F)).1 (tk1 (n, F)).2 ∧ (tk1 (n, F)).1 ≤ 8 := by
  unfold tk1
  show FB (lp ((mv F n).1 - 1) (mv F n).1 (mv F n).2 0).1 (lp ((mv F n).1 - 1) (mv F n).1 (mv F n).2 0).2 ∧ (lp ((mv F n).1 - 1) (mv F n).1 (mv F n).2 0).1 ≤ 8
  have h1 := mv_FB h n (Nat.le_refl _)
  have h2 := mv_le F n
  rcases Nat.eq_zero_or_pos (mv F n).1 with z | z
  · rw [z]; rw [z] at h1
    exact ⟨h1, Nat.zero_le _⟩
  · exact lp_FB _ _ _ _ h1 (by omega) (by omega)

