/-! the pipe in numbers: heads, flows, cavities of the nodes -/
abbrev pH (S : Nat → Int64) : Nat → Int64 := fun k => S (250 + k)
abbrev pF (S : Nat → Int64) : Nat → Int64 := fun k => S (271 + k)
abbrev pC (S : Nat → Int64) : Nat → Int64 := fun k => S (292 + k)
abbrev pG (S : Nat → Int64) : Nat → Int64 := fun k => S (313 + k)
def p_rub (r : Int64) (fl : Nat → Int64) (k : Nat) : Int64 := r * fl k * w_sz (fl k) / 100
def p_l (hd fl : Nat → Int64) (b r : Int64) (k : Nat) : Int64 := hd (k - 1) + b * fl (k - 1) - p_rub r fl (k - 1)
def p_r (hd fl : Nat → Int64) (b r : Int64) (k : Nat) : Int64 := hd (k + 1) - b * fl (k + 1) + p_rub r fl (k + 1)
def p_d (hd fl : Nat → Int64) (b r : Int64) (la k : Nat) : Int64 := if k = la then 0 else p_r hd fl b r k
def p_fl (hd fl : Nat → Int64) (b r z op : Int64) (la k : Nat) : Int64 := if k < la then (p_l hd fl b r k - p_d hd fl b r la k) / (2 * b) else if p_l hd fl b r k < 0 then 0 else op * p_l hd fl b r k / (100 * z + op * b)
def p_hd (hd fl : Nat → Int64) (b r z op : Int64) (la k : Nat) : Int64 := if k < la then fd (p_l hd fl b r k + p_d hd fl b r la k) 2 else p_l hd fl b r k - b * p_fl hd fl b r z op la k
def p_go (hd fl : Nat → Int64) (b r : Int64) (la k : Nat) : Int64 := if k = la then 0 else ((-100) - p_d hd fl b r la k) / b
def p_cv (hd fl cv : Nat → Int64) (b r z op : Int64) (la k : Nat) : Int64 := if 0 < cv k ∨ p_hd hd fl b r z op la k < -100 then cv k + p_go hd fl b r la k - (p_l hd fl b r k + 100) / b else 0
/-- a node as it will be -/
def p_nh (hd fl cv : Nat → Int64) (b r z src op : Int64) (la k : Nat) : Int64 := if k = 0 then src else if 0 < p_cv hd fl cv b r z op la k then -100 else p_hd hd fl b r z op la k
def p_nf (hd fl cv : Nat → Int64) (b r z src op : Int64) (la k : Nat) : Int64 := if k = 0 then (src - p_r hd fl b r 0) / b else if 0 < p_cv hd fl cv b r z op la k then p_go hd fl b r la k else p_fl hd fl b r z op la k
def p_nc (hd fl cv : Nat → Int64) (b r z src op : Int64) (la k : Nat) : Int64 := if k = 0 then 0 else if 0 < p_cv hd fl cv b r z op la k then p_cv hd fl cv b r z op la k else 0
def p_okn (hd fl cv : Nat → Int64) (b r z src op : Int64) (la k : Nat) : Prop := w_in (p_nh hd fl cv b r z src op la k) (-1000000) 1000000 ∧ w_in (p_nf hd fl cv b r z src op la k) (-100000) 100000
def p_ok (hd fl cv : Nat → Int64) (b r z src op : Int64) (la : Nat) : Prop := ∀ k, k ≤ la → p_okn hd fl cv b r z src op la k
/-- a pipe that stands -/
def PS (S : Nat → Int64) (la b r z src op : Nat) : Prop := S 243 = 1 ∧ (S 244 = lN la ∧ 1 ≤ la ∧ la ≤ 20) ∧ (S 245 = lN b ∧ 1 ≤ b ∧ b ≤ 50) ∧ (S 246 = lN r ∧ r ≤ 20) ∧ (S 247 = lN z ∧ 1 ≤ z ∧ z ≤ 50) ∧ (S 248 = lN src ∧ src ≤ 2000) ∧ (S 249 = lN op ∧ op ≤ 100) ∧ ∀ k, k ≤ la → w_in (S (250 + k)) (-1000000) 1000000 ∧ w_in (S (271 + k)) (-100000) 100000
theorem lNp {a : Nat} (h : 1 ≤ a) (h2 : a < 2 ^ 31) : ¬ lN a = 0 := by
  rw [show (0 : Int64) = lN 0 from rfl, lN_eq h2 (by decide)]; omega
abbrev sPok (S : Nat → Int64) (la : Nat) : Prop := p_ok (pH S) (pF S) (pC S) (S 245) (S 246) (S 247) (S 248) (S 249) la
def PStp (la : Nat) (S S1 : Nat → Int64) : Prop :=
  (∀ k, k ≤ la → S1 (250 + k) = p_nh (pH S) (pF S) (pC S) (S 245) (S 246) (S 247) (S 248) (S 249) la k ∧ S1 (271 + k) = p_nf (pH S) (pF S) (pC S) (S 245) (S 246) (S 247) (S 248) (S 249) la k ∧ S1 (292 + k) = p_nc (pH S) (pF S) (pC S) (S 245) (S 246) (S 247) (S 248) (S 249) la k ∧ S1 (313 + k) = (if S (313 + k) < p_nh (pH S) (pF S) (pC S) (S 245) (S 246) (S 247) (S 248) (S 249) la k then p_nh (pH S) (pF S) (pC S) (S 245) (S 246) (S 247) (S 248) (S 249) la k else S (313 + k))) ∧
  ∀ j, j < 250 → S1 j = S j
theorem PS.next {S S1 : Nat → Int64} {la b r z src op : Nat} (h : PS S la b r z src op) (hk : sPok S la) (hs : PStp la S S1) : PS S1 la b r z src op := by
  obtain ⟨h1, ⟨h2, h2'⟩, ⟨h3, h3'⟩, ⟨h4, h4'⟩, ⟨h5, h5'⟩, ⟨h6, h6'⟩, ⟨h7, h7'⟩, h8⟩ := h
  obtain ⟨s1, s2⟩ := hs
  refine ⟨(s2 _ (by omega)).trans h1, ⟨(s2 _ (by omega)).trans h2, h2'⟩, ⟨(s2 _ (by omega)).trans h3, h3'⟩, ⟨(s2 _ (by omega)).trans h4, h4'⟩, ⟨(s2 _ (by omega)).trans h5, h5'⟩, ⟨(s2 _ (by omega)).trans h6, h6'⟩, ⟨(s2 _ (by omega)).trans h7, h7'⟩, fun k hk9 => ?_⟩
  obtain ⟨q1, q2, -⟩ := s1 k hk9
  rw [q1, q2]
  exact hk k hk9
def PChn (la : Nat) (S : Nat → Int64) (k : Nat) (T : Nat → Int64) : Prop := ∃ X9 : Nat → (Nat → Int64), X9 0 = S ∧ X9 k = T ∧ ∀ j, j < k → sPok (X9 j) la ∧ PStp la (X9 j) (X9 (j + 1))
theorem PChn.zero {la : Nat} {S : Nat → Int64} : PChn la S 0 S := ⟨fun _ => S, rfl, rfl, fun j hj => absurd hj (Nat.not_lt_zero _)⟩
theorem PChn.ext {la : Nat} {S T T1 : Nat → Int64} {k : Nat} (h : PChn la S k T) (h1 : sPok T la) (h2 : PStp la T T1) : PChn la S (k + 1) T1 := by
  obtain ⟨X9, a, b, c⟩ := h
  refine ⟨fun j => if j ≤ k then X9 j else T1, by simp [a], if_neg (show ¬ k + 1 ≤ k by omega), fun j hj => ?_⟩
  rcases Nat.lt_succ_iff_lt_or_eq.mp hj with q | rfl
  · have := c j q
    simp only [if_pos (show j ≤ k by omega), if_pos (show j + 1 ≤ k by omega)]
    exact this
  · simp only [if_pos (Nat.le_refl j), if_neg (show ¬ j + 1 ≤ j by omega), b]
    exact ⟨h1, h2⟩

theorem nd_step {N N1 : Nat → Int64} {la k : Nat} {a0 a1 a2 : Nat → Int64} (hk : k ≤ la) (hl : la ≤ 20) (h : ∀ j, j < k → N j = a0 j ∧ N (21 + j) = a1 j ∧ N (42 + j) = a2 j) (h1 : (N1 k = a0 k ∧ N1 (21 + k) = a1 k ∧ N1 (42 + k) = a2 k) ∧ ∀ j, j ≠ k → j ≠ 21 + k → j ≠ 42 + k → N1 j = N j) : ∀ j, j < k + 1 → N1 j = a0 j ∧ N1 (21 + j) = a1 j ∧ N1 (42 + j) = a2 j := by
  intro j hj
  rcases Nat.lt_succ_iff_lt_or_eq.mp hj with q | rfl
  · obtain ⟨q0, q1, q2⟩ := h j q
    exact ⟨by rw [h1.2 _ (by omega) (by omega) (by omega)]; exact q0, by rw [h1.2 _ (by omega) (by omega) (by omega)]; exact q1, by rw [h1.2 _ (by omega) (by omega) (by omega)]; exact q2⟩
  · exact h1.1
theorem all_s {p : Nat → Prop} {k : Nat} (h : ∀ j, j < k → p j) (h1 : p k) : ∀ j, j < k + 1 → p j := fun j hj => (Nat.lt_succ_iff_lt_or_eq.mp hj).elim (h j) (fun e => e ▸ h1)
theorem kj {j k : Nat} (h : j < 4) (hk : k < 334) : 334 * j + k < 1336 := by omega
