/-! a ghost beside the class's numbers: what is kept, and that its steps and ticks can always be led on -/
theorem w_sum_set {f g : Nat → Int64} {k : Nat} : ∀ {n : Nat}, k < n → (∀ j, j < n → j ≠ k → g j = f j) → w_sum g n = w_sum f n + (g k - f k)
  | 0, hk, _ => absurd hk (Nat.not_lt_zero _)
  | n + 1, hk, h => by
    show w_sum g n + g n = w_sum f n + f n + (g k - f k)
    rcases Nat.lt_succ_iff_lt_or_eq.mp hk with q | rfl
    · rw [w_sum_set q (fun j hj hn => h j (by omega) hn), h n (by omega) (by omega)]
      generalize w_sum f n = a
      generalize f n = b
      generalize g k - f k = c
      grind
    · rw [w_sum_cong (fun j hj => h j (by omega) (by omega))]
      generalize w_sum f k = a
      generalize f k = b
      generalize g k = c
      grind
theorem w_sum_tele {f G : Nat → Int64} : ∀ n : Nat, w_sum (fun j => f j + G j - G (j + 1)) n = w_sum f n + (G 0 - G n)
  | 0 => by
    show (0 : Int64) = 0 + (G 0 - G 0)
    generalize G 0 = a
    grind
  | n + 1 => by
    show w_sum (fun j => f j + G j - G (j + 1)) n + (f n + G n - G (n + 1)) = w_sum f n + f n + (G 0 - G (n + 1))
    rw [w_sum_tele n]
    generalize w_sum f n = a
    generalize f n = b
    generalize G 0 = c
    generalize G n = d
    generalize G (n + 1) = e
    grind
theorem w_sum_add {f g : Nat → Int64} : ∀ n : Nat, w_sum (fun j => f j + g j) n = w_sum f n + w_sum g n
  | 0 => by
    show (0 : Int64) = 0 + 0
    decide
  | n + 1 => by
    show w_sum (fun j => f j + g j) n + (f n + g n) = w_sum f n + f n + (w_sum g n + g n)
    rw [w_sum_add n]
    generalize w_sum f n = a
    generalize f n = b
    generalize w_sum g n = c
    generalize g n = d
    grind
theorem w_sum_sub {f g : Nat → Int64} : ∀ n : Nat, w_sum (fun j => f j - g j) n = w_sum f n - w_sum g n
  | 0 => by
    show (0 : Int64) = 0 - 0
    decide
  | n + 1 => by
    show w_sum (fun j => f j - g j) n + (f n - g n) = w_sum f n + f n - (w_sum g n + g n)
    rw [w_sum_sub n]
    generalize w_sum f n = a
    generalize f n = b
    generalize w_sum g n = c
    generalize g n = d
    grind
theorem w_sum_all {f : Nat → Int64} {v : Int64} : ∀ {n : Nat}, (∀ j, j < n → f j = v) → w_sum f n = v * lN n
  | 0, _ => by
    show (0 : Int64) = v * 0
    exact Int64.mul_zero.symm
  | n + 1, h => by
    show w_sum f n + f n = v * lN (n + 1)
    rw [w_sum_all (fun j hj => h j (by omega)), h n (by omega), ← lN_1]
    generalize lN n = a
    grind
theorem gh_1 (a b x : Int64) : a + b + 0 + x = a + (b + x) + 0 := by grind
theorem gh_2 (a b c x y : Int64) : a + b + c + x + y = a + (b + x) + (c + y) := by grind
theorem gh_3 (a b c x y : Int64) : a + b + -c + x - y = a + (b + x) + -(c + y) := by grind
theorem gh_4 (a b d : Int64) : a + b + 0 + d = a + d + b + 0 := by grind
theorem gh_5 (a b c d : Int64) : a + b + c + d = a + d + b + c := by grind
/-- what was told and what came is what there is -/
def KEPT (S : Nat → Int64) (n : Nat) : Prop := w_sum (fun c9 => S (8 + c9)) n = S 142 + S 136 + 0 ∧ w_sum (fun c9 => S (40 + c9)) n = S 143 + S 137 + 0 ∧ w_sum (fun c9 => S (72 + c9)) n = S 144 + S 138 + S 140 ∧ w_sum (fun c9 => S (104 + c9)) n = S 145 + S 139 + -S 141
section GH
variable {S S1 : Nat → Int64} {t : Int64} {g n lft rgt : Nat}
theorem KEPT.cong (h : KEPT S n) (hn : n ≤ 32) (e : ∀ j, 8 ≤ j → j < 146 → S1 j = S j) : KEPT S1 n := by
  obtain ⟨a, b, c, d⟩ := h
  refine ⟨?_, ?_, ?_, ?_⟩
  · rw [e 142 (by omega) (by omega), e 136 (by omega) (by omega), w_sum_cong (fun j hj => e (8 + j) (by omega) (by omega))]; exact a
  · rw [e 143 (by omega) (by omega), e 137 (by omega) (by omega), w_sum_cong (fun j hj => e (40 + j) (by omega) (by omega))]; exact b
  · rw [e 144 (by omega) (by omega), e 138 (by omega) (by omega), e 140 (by omega) (by omega), w_sum_cong (fun j hj => e (72 + j) (by omega) (by omega))]; exact c
  · rw [e 145 (by omega) (by omega), e 139 (by omega) (by omega), e 141 (by omega) (by omega), w_sum_cong (fun j hj => e (104 + j) (by omega) (by omega))]; exact d
theorem KEPT.stp (h : KEPT S n) (hs : SStp t g n lft rgt S S1) : KEPT S1 n := by
  obtain ⟨a1, -, ⟨b0, b1, b2, b3⟩, ⟨c0, c1⟩, -, e⟩ := hs
  obtain ⟨k0, k1, k2, k3⟩ := h
  have s0 : w_sum (fun c9 => S1 (8 + c9)) n = w_sum (fun c9 => S (8 + c9)) n + (w_g0 t g (sM S) (sP S) (sE S) n lft rgt 0 - w_g0 t g (sM S) (sP S) (sE S) n lft rgt n) :=
    (w_sum_cong (fun j hj => (a1 j hj).1)).trans (w_sum_tele (f := fun c9 => S (8 + c9)) (G := w_g0 t g (sM S) (sP S) (sE S) n lft rgt) n)
  have s1 : w_sum (fun c9 => S1 (40 + c9)) n = w_sum (fun c9 => S (40 + c9)) n + (w_g1 t g (sM S) (sP S) (sE S) n lft rgt 0 - w_g1 t g (sM S) (sP S) (sE S) n lft rgt n) :=
    (w_sum_cong (fun j hj => (a1 j hj).2.1)).trans (w_sum_tele (f := fun c9 => S (40 + c9)) (G := w_g1 t g (sM S) (sP S) (sE S) n lft rgt) n)
  have s2 : w_sum (fun c9 => S1 (72 + c9)) n = w_sum (fun c9 => S (72 + c9)) n + (w_g2 t g (sM S) (sP S) (sE S) n lft rgt 0 - w_g2 t g (sM S) (sP S) (sE S) n lft rgt n) + w_sum (fun j => w_gn t g (sM S) (sP S) (sE S) (sF S) n lft rgt (S 1) (S 2) j * S 3) n := by
    rw [← w_sum_tele (f := fun c9 => S (72 + c9)) (G := w_g2 t g (sM S) (sP S) (sE S) n lft rgt) n, ← w_sum_add]
    exact w_sum_cong (fun j hj => (a1 j hj).2.2.1)
  have s3 : w_sum (fun c9 => S1 (104 + c9)) n = w_sum (fun c9 => S (104 + c9)) n + (w_g3 t g (sM S) (sP S) (sE S) (sF S) n lft rgt 0 - w_g3 t g (sM S) (sP S) (sE S) (sF S) n lft rgt n) - w_sum (w_gn t g (sM S) (sP S) (sE S) (sF S) n lft rgt (S 1) (S 2)) n := by
    rw [← w_sum_tele (f := fun c9 => S (104 + c9)) (G := w_g3 t g (sM S) (sP S) (sE S) (sF S) n lft rgt) n, ← w_sum_sub]
    exact w_sum_cong (fun j hj => (a1 j hj).2.2.2)
  refine ⟨?_, ?_, ?_, ?_⟩
  · rw [s0, k0, e 142 (by omega), b0]; exact gh_1 _ _ _
  · rw [s1, k1, e 143 (by omega), b1]; exact gh_1 _ _ _
  · rw [s2, k2, e 144 (by omega), b2, c0]; exact gh_2 _ _ _ _ _
  · rw [s3, k3, e 145 (by omega), b3, c1]; exact gh_3 _ _ _ _ _
theorem KEPT.chn {m : Nat} {T : Nat → Int64} (h : KEPT S n) (hc : Chn t g n lft rgt S m T) : KEPT T n := by
  obtain ⟨X9, x0, x1, x2⟩ := hc
  subst x0 x1
  have : ∀ i, i ≤ m → KEPT (X9 i) n := by
    intro i
    induction i with
    | zero => intro _; exact h
    | succ i ih => intro hi; exact (ih (by omega)).stp (x2 i (by omega)).2
  exact this m (Nat.le_refl _)
/- the next numbers of the tube -/
noncomputable def nxA (t : Int64) (g n lft rgt : Nat) (S : Nat → Int64) (j : Nat) : Int64 :=
  if j = 7 then S 7 + 1
  else if 8 ≤ j ∧ j < 8 + n then w_f0 t g (sM S) (sP S) (sE S) (sF S) n lft rgt (j - 8)
  else if 40 ≤ j ∧ j < 40 + n then w_f1 t g (sM S) (sP S) (sE S) (sF S) n lft rgt (j - 40)
  else if 72 ≤ j ∧ j < 72 + n then w_e2 t g (sM S) (sP S) (sE S) (sF S) n lft rgt (S 1) (S 2) (S 3) (j - 72)
  else if 104 ≤ j ∧ j < 104 + n then w_f4 t g (sM S) (sP S) (sE S) (sF S) n lft rgt (S 1) (S 2) (j - 104)
  else if j = 136 then S 136 + (w_g0 t g (sM S) (sP S) (sE S) n lft rgt 0 - w_g0 t g (sM S) (sP S) (sE S) n lft rgt n)
  else if j = 137 then S 137 + (w_g1 t g (sM S) (sP S) (sE S) n lft rgt 0 - w_g1 t g (sM S) (sP S) (sE S) n lft rgt n)
  else if j = 138 then S 138 + (w_g2 t g (sM S) (sP S) (sE S) n lft rgt 0 - w_g2 t g (sM S) (sP S) (sE S) n lft rgt n)
  else if j = 139 then S 139 + (w_g3 t g (sM S) (sP S) (sE S) (sF S) n lft rgt 0 - w_g3 t g (sM S) (sP S) (sE S) (sF S) n lft rgt n)
  else if j = 140 then S 140 + w_sum (fun j => w_gn t g (sM S) (sP S) (sE S) (sF S) n lft rgt (S 1) (S 2) j * S 3) n
  else if j = 141 then S 141 + w_sum (w_gn t g (sM S) (sP S) (sE S) (sF S) n lft rgt (S 1) (S 2)) n
  else S j
noncomputable def nxB (t : Int64) (g n lft rgt : Nat) (S : Nat → Int64) (j : Nat) : Int64 :=
  if 146 ≤ j ∧ j < 146 + n then (if S j < w_pr g (sM (nxA t g n lft rgt S)) (sP (nxA t g n lft rgt S)) (sE (nxA t g n lft rgt S)) (j - 146) then w_pr g (sM (nxA t g n lft rgt S)) (sP (nxA t g n lft rgt S)) (sE (nxA t g n lft rgt S)) (j - 146) else S j)
  else if 178 ≤ j ∧ j < 178 + n then (if S (146 + (j - 178)) < w_pr g (sM (nxA t g n lft rgt S)) (sP (nxA t g n lft rgt S)) (sE (nxA t g n lft rgt S)) (j - 178) then S 7 + 1 else S j)
  else nxA t g n lft rgt S j
theorem nxA_7 : nxA t g n lft rgt S 7 = S 7 + 1 := if_pos rfl
theorem nxA_M (hn : n ≤ 32) {j : Nat} (hj : j < n) : nxA t g n lft rgt S (8 + j) = w_f0 t g (sM S) (sP S) (sE S) (sF S) n lft rgt j := by
  unfold nxA
  rw [if_neg (by omega), if_pos (by omega), Nat.add_sub_cancel_left]
theorem nxA_P (hn : n ≤ 32) {j : Nat} (hj : j < n) : nxA t g n lft rgt S (40 + j) = w_f1 t g (sM S) (sP S) (sE S) (sF S) n lft rgt j := by
  unfold nxA
  rw [if_neg (by omega), if_neg (by omega), if_pos (by omega), Nat.add_sub_cancel_left]
theorem nxA_E (hn : n ≤ 32) {j : Nat} (hj : j < n) : nxA t g n lft rgt S (72 + j) = w_e2 t g (sM S) (sP S) (sE S) (sF S) n lft rgt (S 1) (S 2) (S 3) j := by
  unfold nxA
  rw [if_neg (by omega), if_neg (by omega), if_neg (by omega), if_pos (by omega), Nat.add_sub_cancel_left]
theorem nxA_F (hn : n ≤ 32) {j : Nat} (hj : j < n) : nxA t g n lft rgt S (104 + j) = w_f4 t g (sM S) (sP S) (sE S) (sF S) n lft rgt (S 1) (S 2) j := by
  unfold nxA
  rw [if_neg (by omega), if_neg (by omega), if_neg (by omega), if_neg (by omega), if_pos (by omega), Nat.add_sub_cancel_left]
theorem nxA_no {j : Nat} (hn : n ≤ 32) (h : j < 7 ∨ 142 ≤ j) : nxA t g n lft rgt S j = S j := by
  unfold nxA
  rw [if_neg (by omega), if_neg (by omega), if_neg (by omega), if_neg (by omega), if_neg (by omega), if_neg (by omega), if_neg (by omega), if_neg (by omega), if_neg (by omega), if_neg (by omega), if_neg (by omega)]
theorem nxB_A {j : Nat} (h : j < 146 ∨ 210 ≤ j) (hn : n ≤ 32) : nxB t g n lft rgt S j = nxA t g n lft rgt S j := by
  unfold nxB
  rw [if_neg (by omega), if_neg (by omega)]
theorem nxB_pr (hn : n ≤ 32) {j : Nat} (hj : j < n) : w_pr g (sM (nxA t g n lft rgt S)) (sP (nxA t g n lft rgt S)) (sE (nxA t g n lft rgt S)) j = w_pr g (sM (nxB t g n lft rgt S)) (sP (nxB t g n lft rgt S)) (sE (nxB t g n lft rgt S)) j := by
  unfold w_pr
  rw [show sM (nxB t g n lft rgt S) j = sM (nxA t g n lft rgt S) j from nxB_A (by omega) hn, show sP (nxB t g n lft rgt S) j = sP (nxA t g n lft rgt S) j from nxB_A (by omega) hn, show sE (nxB t g n lft rgt S) j = sE (nxA t g n lft rgt S) j from nxB_A (by omega) hn]
theorem stp_ex (t : Int64) (g lft rgt : Nat) (S : Nat → Int64) (hn : n ≤ 32) : SStp t g n lft rgt S (nxB t g n lft rgt S) := by
  refine ⟨fun j hj => ⟨(nxB_A (by omega) hn).trans (nxA_M hn hj), (nxB_A (by omega) hn).trans (nxA_P hn hj), (nxB_A (by omega) hn).trans (nxA_E hn hj), (nxB_A (by omega) hn).trans (nxA_F hn hj)⟩, (nxB_A (by omega) hn).trans nxA_7, ⟨?_, ?_, ?_, ?_⟩, ⟨?_, ?_⟩, fun j hj => ⟨?_, ?_⟩, fun j hj => ?_⟩
  · rw [nxB_A (by omega) hn]; unfold nxA
    rw [if_neg (by omega), if_neg (by omega), if_neg (by omega), if_neg (by omega), if_neg (by omega), if_pos rfl]
  · rw [nxB_A (by omega) hn]; unfold nxA
    rw [if_neg (by omega), if_neg (by omega), if_neg (by omega), if_neg (by omega), if_neg (by omega), if_neg (by omega), if_pos rfl]
  · rw [nxB_A (by omega) hn]; unfold nxA
    rw [if_neg (by omega), if_neg (by omega), if_neg (by omega), if_neg (by omega), if_neg (by omega), if_neg (by omega), if_neg (by omega), if_pos rfl]
  · rw [nxB_A (by omega) hn]; unfold nxA
    rw [if_neg (by omega), if_neg (by omega), if_neg (by omega), if_neg (by omega), if_neg (by omega), if_neg (by omega), if_neg (by omega), if_neg (by omega), if_pos rfl]
  · rw [nxB_A (by omega) hn]; unfold nxA
    rw [if_neg (by omega), if_neg (by omega), if_neg (by omega), if_neg (by omega), if_neg (by omega), if_neg (by omega), if_neg (by omega), if_neg (by omega), if_neg (by omega), if_pos rfl]
  · rw [nxB_A (by omega) hn]; unfold nxA
    rw [if_neg (by omega), if_neg (by omega), if_neg (by omega), if_neg (by omega), if_neg (by omega), if_neg (by omega), if_neg (by omega), if_neg (by omega), if_neg (by omega), if_neg (by omega), if_pos rfl]
  · rw [← nxB_pr hn hj]
    show (if 146 ≤ 146 + j ∧ 146 + j < 146 + n then _ else _) = _
    rw [if_pos (by omega), Nat.add_sub_cancel_left]
  · rw [← nxB_pr hn hj]
    show (if 146 ≤ 178 + j ∧ 178 + j < 146 + n then _ else if 178 ≤ 178 + j ∧ 178 + j < 178 + n then _ else _) = _
    rw [if_neg (by omega), if_pos (by omega), Nat.add_sub_cancel_left]
  · rcases (show j < 7 ∨ 210 ≤ j ∨ (142 ≤ j ∧ j < 146) by omega) with q | q | q
    · rw [nxB_A (by omega) hn, nxA_no hn (by omega)]
    · rw [nxB_A (by omega) hn, nxA_no hn (by omega)]
    · rw [nxB_A (by omega) hn, nxA_no hn (by omega)]
theorem chn_ex {ns : Nat} (hT : TS S g n lft rgt) (ht : 1 ≤ t.toInt ∧ t.toInt ≤ 400) (h7 : S 7 = lN ns) : ∀ m : Nat, ∃ (kM : Nat) (s1 : Nat → Int64), TS s1 g n lft rgt ∧ Chn t g n lft rgt S kM s1 ∧ kM ≤ m ∧ (kM < m → ¬ sOk t g n lft rgt s1) ∧ s1 7 = lN (ns + kM)
  | 0 => ⟨0, S, hT, Chn.zero, Nat.le_refl _, fun h => absurd h (Nat.lt_irrefl _), h7⟩
  | m + 1 => by
    obtain ⟨kM, s1, a, b, c, d, e⟩ := chn_ex hT ht h7 m
    by_cases q : kM = m ∧ sOk t g n lft rgt s1
    · have hs := stp_ex t g lft rgt s1 a.2.2.1.2
      refine ⟨kM + 1, _, a.next ht q.2 hs, b.ext q.2 hs, by omega, fun z => absurd z (by omega), ?_⟩
      rw [hs.2.1, e]
      exact lN_1 _
    · refine ⟨kM, s1, a, b, by omega, fun z z2 => ?_, e⟩
      rcases Nat.lt_or_ge kM m with r | r
      · exact d r z2
      · exact q ⟨by omega, z2⟩
end GH
/- the pipe -/
section GP
variable {S S1 : Nat → Int64} {la b r z src op : Nat}
noncomputable def pnx (la : Nat) (S : Nat → Int64) (j : Nat) : Int64 :=
  if 250 ≤ j ∧ j < 251 + la then p_nh (pH S) (pF S) (pC S) (S 245) (S 246) (S 247) (S 248) (S 249) la (j - 250)
  else if 271 ≤ j ∧ j < 272 + la then p_nf (pH S) (pF S) (pC S) (S 245) (S 246) (S 247) (S 248) (S 249) la (j - 271)
  else if 292 ≤ j ∧ j < 293 + la then p_nc (pH S) (pF S) (pC S) (S 245) (S 246) (S 247) (S 248) (S 249) la (j - 292)
  else if 313 ≤ j ∧ j < 314 + la then (if S j < p_nh (pH S) (pF S) (pC S) (S 245) (S 246) (S 247) (S 248) (S 249) la (j - 313) then p_nh (pH S) (pF S) (pC S) (S 245) (S 246) (S 247) (S 248) (S 249) la (j - 313) else S j)
  else S j
theorem pstp_ex (S : Nat → Int64) (hla : la ≤ 20) : PStp la S (pnx la S) := by
  refine ⟨fun k hk => ⟨?_, ?_, ?_, ?_⟩, fun j hj => ?_⟩
  · unfold pnx
    rw [if_pos (by omega), Nat.add_sub_cancel_left]
  · unfold pnx
    rw [if_neg (by omega), if_pos (by omega), Nat.add_sub_cancel_left]
  · unfold pnx
    rw [if_neg (by omega), if_neg (by omega), if_pos (by omega), Nat.add_sub_cancel_left]
  · show (if 250 ≤ 313 + k ∧ 313 + k < 251 + la then _ else if 271 ≤ 313 + k ∧ 313 + k < 272 + la then _ else if 292 ≤ 313 + k ∧ 313 + k < 293 + la then _ else if 313 ≤ 313 + k ∧ 313 + k < 314 + la then _ else _) = _
    rw [if_neg (by omega), if_neg (by omega), if_neg (by omega), if_pos (by omega), Nat.add_sub_cancel_left]
  · unfold pnx
    rw [if_neg (by omega), if_neg (by omega), if_neg (by omega), if_neg (by omega)]
theorem pstp_top (hs : PStp la S S1) : ¬ S1 313 < S1 250 := by
  obtain ⟨a, -, -, d⟩ := hs.1 0 (Nat.zero_le _)
  rw [show S1 313 = S1 (313 + 0) from rfl, show S1 250 = S1 (250 + 0) from rfl, a, d]
  split
  · exact Int64.lt_irrefl
  · next h => exact h
theorem pchn_ex (h : PS S la b r z src op) (h9 : ¬ S 313 < S 250) : ∀ m : Nat, ∃ (kM : Nat) (s1 : Nat → Int64), PS s1 la b r z src op ∧ PChn la S kM s1 ∧ kM ≤ m ∧ (kM < m → ¬ sPok s1 la) ∧ ¬ s1 313 < s1 250
  | 0 => ⟨0, S, h, PChn.zero, Nat.le_refl _, fun h => absurd h (Nat.lt_irrefl _), h9⟩
  | m + 1 => by
    obtain ⟨kM, s1, a1, b1, c1, d1, e1⟩ := pchn_ex h h9 m
    by_cases q : kM = m ∧ sPok s1 la
    · have hs := pstp_ex (la := la) s1 a1.2.1.2.2
      exact ⟨kM + 1, _, a1.next q.2 hs, b1.ext q.2 hs, by omega, fun z => absurd z (by omega), pstp_top hs⟩
    · refine ⟨kM, s1, a1, b1, by omega, fun z z2 => ?_, e1⟩
      rcases Nat.lt_or_ge kM m with r | r
      · exact d1 r z2
      · exact q ⟨by omega, z2⟩
end GP

