/-! the reference's meetings -/
theorem fS0 (S Bf : Nat → Int64) (j : Nat) : fS S Bf 0 j = (S (211 + j)).toInt := by simp [fS]
theorem fS1 (S Bf : Nat → Int64) (j : Nat) : fS S Bf 1 j = (S (219 + j)).toInt := by simp [fS]
theorem fS2 (S Bf : Nat → Int64) (j : Nat) : fS S Bf 2 j = (S (227 + j)).toInt := by simp [fS]
theorem fS3 (S Bf : Nat → Int64) (j : Nat) : fS S Bf 3 j = (S (235 + j)).toInt := by simp [fS]
theorem fS4 (S Bf : Nat → Int64) (j : Nat) : fS S Bf 4 j = (Bf j).toInt := by simp [fS]
theorem domeet_iff {S Bf : Nat → Int64} {k : Nat} : mt_on (fS S Bf) k ↔ (S (219 + (k + 1)) < S (219 + k) ∨ (S (219 + k) = S (219 + (k + 1)) ∧ Bf k < Bf (k + 1))) := by
  unfold mt_on
  rw [fS1, fS1, fS4, fS4, Int64.lt_iff_toInt_lt, Int64.lt_iff_toInt_lt, ← Int64.toInt_inj]
/-- the places of what has met are set last -/
abbrev Ex (a j k r : Nat) : Prop := (a = 1 ∨ a = 4) ∧ k ≤ j ∧ j ≤ r
theorem r_new_x {k p p' v t : Int} {a : Nat} (ha : a < 5) (h : ¬ (a = 1 ∨ a = 4)) : r_new k p v t a = r_new k p' v t a := by
  rcases a5 ha with rfl | rfl | rfl | rfl | rfl
  · rfl
  · exact absurd (Or.inl rfl) h
  · rfl
  · rfl
  · exact absurd (Or.inr rfl) h
theorem r_new_F {F : RF} {k a : Nat} {p : Int} (ha : a < 5) (h : ¬ (a = 1 ∨ a = 4)) : r_new (F 0 k) p (F 2 k) (F 3 k) a = F a k := by
  rcases a5 ha with rfl | rfl | rfl | rfl | rfl
  · rfl
  · exact absurd (Or.inl rfl) h
  · rfl
  · rfl
  · exact absurd (Or.inr rfl) h
theorem smA {F G G1 : RF} {k n : Nat} {pl v t : Int} (hk : k + 1 < n) (hn : n ≤ 8) (hs : F 0 k = 0 ∧ F 0 (k + 1) = 0) (ht : ¬ mt_thru F k) (h1 : ∀ a j, a < 5 → j < 8 → G a j = if j = k then r_new 0 pl v t a else F a j) (hp : pl = mt_pl F k) (hv : v = (F 2 k * F 3 k + F 2 (k + 1) * F 3 (k + 1)).tdiv (F 3 k + F 3 (k + 1))) (hu : t = r_min (F 3 k + F 3 (k + 1)) 900) (h2 : ∀ a j, a < 5 → j < n - 1 → G1 a j = r_rem G (k + 1) a j) :
    (mt n F k).1 = n - 1 ∧ (mt n F k).2.2 = k ∧ ∀ a j, a < 5 → j < n - 1 → Ex a j k k ∨ G1 a j = (mt n F k).2.1 a j := by
  have e : mt n F k = (n - 1, r_rem (r_two F k (mt_merge F k) (mt_merge F k)) (k + 1), k) := by unfold mt; rw [if_pos hs, if_neg ht]
  rw [e]
  refine ⟨rfl, rfl, fun a j ha hj => Or.inr ?_⟩
  show G1 a j = r_rem (r_two F k (mt_merge F k) (mt_merge F k)) (k + 1) a j
  rw [h2 a j ha hj]
  unfold r_rem r_two
  by_cases q : j < k + 1
  · rw [if_pos q, if_pos q, h1 a j ha (by omega)]
    by_cases q2 : j = k
    · rw [if_pos q2, if_pos q2]; unfold mt_merge; rw [hp, hv, hu]
    · rw [if_neg q2, if_neg q2, if_neg (by omega)]
  · rw [if_neg q, if_neg q, h1 a (j + 1) ha (by omega), if_neg (by omega), if_neg (by omega), if_neg (by omega)]
theorem smB {F T : RF} {k n : Nat} (hs : F 0 k = 0 ∧ F 0 (k + 1) = 0) (h1 : ∀ a j, a < 5 → j < 8 → T a j = if j = k + 1 then (if a = 4 then F 1 k else F a k) else if j = k then F a (k + 1) else F a j) {a j : Nat} (ha : a < 5) (hj : j < 8) (hx : ¬ ((a = 1 ∨ a = 4) ∧ k ≤ j ∧ j ≤ k + 1)) : T a j = mt_swap F k a j := by
  rw [h1 a j ha hj]
  unfold mt_swap r_two
  by_cases q : j = k + 1
  · rw [if_pos q, if_neg (by omega), if_pos q, if_neg (by omega), ← hs.1, r_new_F ha (by omega)]
  · rw [if_neg q]
    by_cases q2 : j = k
    · rw [if_pos q2, if_pos q2, ← hs.2, r_new_F ha (by omega)]
    · rw [if_neg q2, if_neg q2, if_neg q]
theorem smB1 {F T : RF} {k n : Nat} (hk : k + 1 < n) (hn : n ≤ 8) (hs : F 0 k = 0 ∧ F 0 (k + 1) = 0) (ht : mt_thru F k) (hf : ¬ (F 3 k ≠ F 3 (k + 1) ∧ n < 8)) (h1 : ∀ a j, a < 5 → j < 8 → T a j = if j = k + 1 then (if a = 4 then F 1 k else F a k) else if j = k then F a (k + 1) else F a j) :
    (mt n F k).1 = n ∧ (mt n F k).2.2 = k + 1 ∧ ∀ a j, a < 5 → j < n → Ex a j k (k + 1) ∨ T a j = (mt n F k).2.1 a j := by
  have e : mt n F k = (n, mt_swap F k, k + 1) := by unfold mt; rw [if_pos hs, if_pos ht, if_neg hf]
  rw [e]
  refine ⟨rfl, rfl, fun a j ha hj => ?_⟩
  by_cases hx : (a = 1 ∨ a = 4) ∧ k ≤ j ∧ j ≤ k + 1
  · exact Or.inl hx
  · exact Or.inr (smB hs h1 (n := n) ha (by omega) hx)
theorem smB2 {F T G G1 : RF} {k n : Nat} {pl v t : Int} (hk : k + 1 < n) (hs : F 0 k = 0 ∧ F 0 (k + 1) = 0) (ht : mt_thru F k) (hf : F 3 k ≠ F 3 (k + 1) ∧ n < 8) (h1 : ∀ a j, a < 5 → j < 8 → T a j = if j = k + 1 then (if a = 4 then F 1 k else F a k) else if j = k then F a (k + 1) else F a j) (h2 : ∀ a j, a < 5 → j < 8 → G a j = if k + 1 < j ∧ j ≤ n then T a (j - 1) else T a j) (h3 : ∀ a j, a < 5 → j < 8 → G1 a j = if j = k + 1 then r_new 1 pl v t a else G a j) (hp : pl = mt_pl F k) (hv : v = (F 2 k + F 2 (k + 1)).tdiv 10) (hu : t = r_abs (F 3 k - F 3 (k + 1))) :
    (mt n F k).1 = n + 1 ∧ (mt n F k).2.2 = k + 2 ∧ ∀ a j, a < 5 → j < n + 1 → Ex a j k (k + 2) ∨ G1 a j = (mt n F k).2.1 a j := by
  have e : mt n F k = (n + 1, r_ins (mt_swap F k) (k + 1) (r_new 1 (mt_pl F k) ((F 2 k + F 2 (k + 1)).tdiv 10) (r_abs (F 3 k - F 3 (k + 1)))), k + 2) := by unfold mt; rw [if_pos hs, if_pos ht, if_pos hf]
  rw [e]
  refine ⟨rfl, rfl, fun a j ha hj => ?_⟩
  by_cases hx : Ex a j k (k + 2)
  · exact Or.inl hx
  · refine Or.inr ?_
    show G1 a j = r_ins (mt_swap F k) (k + 1) _ a j
    rw [h3 a j ha (by omega)]
    unfold r_ins
    by_cases q : j = k + 1
    · rw [if_pos q, if_neg (by omega), if_pos q, hp, hv, hu]
    · rw [if_neg q, h2 a j ha (by omega)]
      by_cases q2 : j < k + 1
      · rw [if_pos q2, if_neg (by omega), smB hs h1 (n := n) ha (by omega) (by unfold Ex at hx; omega)]
      · rw [if_neg q2, if_neg q, if_pos (by omega), smB hs h1 (n := n) ha (by omega) (by unfold Ex at hx; omega)]
theorem mt_place {n : Nat} {F : RF} {k : Nat} (hk : k + 1 < n) {j : Nat} (h1 : k ≤ j) (h2 : j ≤ (mt n F k).2.2) : (mt n F k).2.1 1 j = mt_pl F k ∧ (mt n F k).2.1 4 j = mt_pl F k := by
  have two : ∀ (x y : Nat → Int), x 1 = mt_pl F k → y 1 = mt_pl F k → x 4 = mt_pl F k → y 4 = mt_pl F k → ∀ i, i = k ∨ i = k + 1 → r_two F k x y 1 i = mt_pl F k ∧ r_two F k x y 4 i = mt_pl F k := by
    intro x y a b c d i hi
    unfold r_two
    rcases hi with rfl | rfl
    · rw [if_pos rfl, if_pos rfl]; exact ⟨a, c⟩
    · rw [if_neg (by omega), if_pos rfl, if_neg (by omega), if_pos rfl]; exact ⟨b, d⟩
  unfold mt at h2 ⊢
  by_cases hs : F 0 k = 0 ∧ F 0 (k + 1) = 0
  · rw [if_pos hs] at h2 ⊢
    by_cases ht : mt_thru F k
    · rw [if_pos ht] at h2 ⊢
      by_cases hf : F 3 k ≠ F 3 (k + 1) ∧ n < 8
      · rw [if_pos hf] at h2 ⊢
        have h2 : j ≤ k + 2 := h2
        show r_ins (mt_swap F k) (k + 1) _ 1 j = _ ∧ r_ins (mt_swap F k) (k + 1) _ 4 j = _
        unfold r_ins
        by_cases q : j < k + 1
        · rw [if_pos q, if_pos q]; exact two _ _ rfl rfl rfl rfl j (by omega)
        · by_cases q2 : j = k + 1
          · rw [if_neg q, if_pos q2, if_neg q, if_pos q2]; exact ⟨rfl, rfl⟩
          · rw [if_neg q, if_neg q2, if_neg q, if_neg q2]; exact two _ _ rfl rfl rfl rfl (j - 1) (by omega)
      · rw [if_neg hf] at h2 ⊢
        have h2 : j ≤ k + 1 := h2
        exact two _ _ rfl rfl rfl rfl j (by omega)
    · rw [if_neg ht] at h2 ⊢
      have h2 : j ≤ k := h2
      show r_rem _ (k + 1) 1 j = _ ∧ r_rem _ (k + 1) 4 j = _
      unfold r_rem
      rw [if_pos (by omega), if_pos (by omega)]
      exact two _ _ rfl rfl rfl rfl j (by omega)
  · rw [if_neg hs] at h2 ⊢
    by_cases hd : F 0 k = 0 ∨ F 0 (k + 1) = 0
    · rw [if_pos hd] at h2 ⊢
      have h2 : j ≤ k + 1 := h2
      show mt_pass F k 1 j = _ ∧ mt_pass F k 4 j = _
      unfold mt_pass
      split
      · exact two _ _ rfl rfl rfl rfl j (by omega)
      · exact two _ _ rfl rfl rfl rfl j (by omega)
    · rw [if_neg hd] at h2 ⊢
      have h2 : j ≤ k := h2
      show r_rem _ (mt_gone F k) 1 j = _ ∧ r_rem _ (mt_gone F k) 4 j = _
      unfold r_rem
      by_cases q : j < mt_gone F k
      · rw [if_pos q, if_pos q]; exact two _ _ rfl rfl rfl rfl j (by omega)
      · rw [if_neg q, if_neg q]; exact two _ _ rfl rfl rfl rfl (j + 1) (by omega)
theorem mt_last {n : Nat} {F G1 G2 : RF} {k r : Nat} {pl : Int} (hk : k + 1 < n) (hr : r = (mt n F k).2.2) (hp : pl = mt_pl F k) (h1 : ∀ a j, a < 5 → j < (mt n F k).1 → Ex a j k r ∨ G1 a j = (mt n F k).2.1 a j) (h2 : ∀ a j, a < 5 → j < 8 → G2 a j = if (a = 1 ∨ a = 4) ∧ k ≤ j ∧ j ≤ r then pl else G1 a j) (h8 : (mt n F k).1 ≤ 8) : Ag (mt n F k).1 G2 (mt n F k).2.1 := by
  intro a j ha hj
  rw [h2 a j ha (by omega)]
  by_cases q : (a = 1 ∨ a = 4) ∧ k ≤ j ∧ j ≤ r
  · rw [if_pos q, hp]
    have := mt_place (F := F) (n := n) hk q.2.1 (by omega)
    rcases q.1 with rfl | rfl
    · exact this.1.symm
    · exact this.2.symm
  · rw [if_neg q]
    exact (h1 a j ha hj).elim (fun z => absurd z q) id
theorem pas {F T U : RF} {k n x o : Nat} {st sp : Int} (hs : ¬ (F 0 k = 0 ∧ F 0 (k + 1) = 0)) (hd : F 0 k = 0 ∨ F 0 (k + 1) = 0) (hx : (F 0 k = 0 ∧ x = k ∧ o = k + 1) ∨ (¬ F 0 k = 0 ∧ x = k + 1 ∧ o = k)) (hst : st = mt_st F x o) (hsp : sp = mt_sp F x o) (hU : ∀ a j, a < 5 → j < 8 → U a j = if a = 3 ∧ j = x then st else if a = 2 ∧ j = o then sp else F a j) (h1 : ∀ a j, a < 5 → j < 8 → T a j = if j = k + 1 then (if a = 4 then U 1 k else U a k) else if j = k then U a (k + 1) else U a j) (hk : k + 1 < n) (hn : n ≤ 8) :
    (mt n F k).1 = n ∧ (mt n F k).2.2 = k + 1 ∧ ∀ a j, a < 5 → j < n → Ex a j k (k + 1) ∨ T a j = (mt n F k).2.1 a j := by
  have e : mt n F k = (n, mt_pass F k, k + 1) := by unfold mt; rw [if_neg hs, if_pos hd]
  rw [e]
  refine ⟨rfl, rfl, fun a j ha hj => ?_⟩
  by_cases hz : Ex a j k (k + 1)
  · exact Or.inl hz
  · refine Or.inr ?_
    show T a j = mt_pass F k a j
    rw [h1 a j ha (by omega)]
    unfold mt_pass
    have hza : j = k ∨ j = k + 1 → ¬ (a = 1 ∨ a = 4) := fun q w => hz ⟨w, by omega, by omega⟩
    rcases hx with ⟨c, rfl, rfl⟩ | ⟨c, rfl, rfl⟩
    · rw [if_pos c]
      unfold r_two
      by_cases q : j = x + 1
      · rw [if_pos q, if_neg (by omega), if_pos q]
        have := hza (Or.inr q)
        rw [if_neg (by omega), hU a x ha (by omega)]
        rcases a5 ha with rfl | rfl | rfl | rfl | rfl
        · rw [if_neg (by omega), if_neg (by omega)]; exact c
        · omega
        · rw [if_neg (by omega), if_neg (by omega)]; rfl
        · rw [if_pos ⟨rfl, rfl⟩, hst]; rfl
        · omega
      · by_cases q2 : j = x
        · rw [if_neg q, if_pos q2, if_pos q2, hU a (x + 1) ha (by omega)]
          have := hza (Or.inl q2)
          rcases a5 ha with rfl | rfl | rfl | rfl | rfl
          · rw [if_neg (by omega), if_neg (by omega)]; rfl
          · omega
          · rw [if_neg (by omega), if_pos ⟨rfl, rfl⟩, hsp]; rfl
          · rw [if_neg (by omega), if_neg (by omega)]; rfl
          · omega
        · rw [if_neg q, if_neg q2, if_neg q2, if_neg q, hU a j ha (by omega), if_neg (by omega), if_neg (by omega)]
    · rw [if_neg c]
      have c2 : F 0 (o + 1) = 0 := hd.elim (fun z => absurd z c) id
      unfold r_two
      by_cases q : j = o + 1
      · rw [if_pos q, if_neg (by omega), if_pos q]
        have := hza (Or.inr q)
        rw [if_neg (by omega), hU a o ha (by omega)]
        rcases a5 ha with rfl | rfl | rfl | rfl | rfl
        · rw [if_neg (by omega), if_neg (by omega)]; rfl
        · omega
        · rw [if_neg (by omega), if_pos ⟨rfl, rfl⟩, hsp]; rfl
        · rw [if_neg (by omega), if_neg (by omega)]; rfl
        · omega
      · by_cases q2 : j = o
        · rw [if_neg q, if_pos q2, if_pos q2, hU a (o + 1) ha (by omega)]
          have := hza (Or.inl q2)
          rcases a5 ha with rfl | rfl | rfl | rfl | rfl
          · rw [if_neg (by omega), if_neg (by omega)]; exact c2
          · omega
          · rw [if_neg (by omega), if_neg (by omega)]; rfl
          · rw [if_pos ⟨rfl, rfl⟩, hst]; rfl
          · omega
        · rw [if_neg q, if_neg q2, if_neg q2, if_neg q, hU a j ha (by omega), if_neg (by omega), if_neg (by omega)]
theorem gon {F G1 : RF} {k n : Nat} (hs : ¬ (F 0 k = 0 ∧ F 0 (k + 1) = 0)) (hd : ¬ (F 0 k = 0 ∨ F 0 (k + 1) = 0)) (hk : k + 1 < n) (h2 : ∀ a j, a < 5 → j < n - 1 → G1 a j = r_rem F (mt_gone F k) a j) :
    (mt n F k).1 = n - 1 ∧ (mt n F k).2.2 = k ∧ ∀ a j, a < 5 → j < n - 1 → Ex a j k k ∨ G1 a j = (mt n F k).2.1 a j := by
  have e : mt n F k = (n - 1, mt_left F k, k) := by unfold mt; rw [if_neg hs, if_neg hd]
  rw [e]
  refine ⟨rfl, rfl, fun a j ha hj => ?_⟩
  by_cases hz : Ex a j k k
  · exact Or.inl hz
  · refine Or.inr ?_
    show G1 a j = mt_left F k a j
    rw [h2 a j ha hj]
    have hg : mt_gone F k = k ∨ mt_gone F k = k + 1 := by unfold mt_gone; split <;> split <;> omega
    have two : ∀ i, (i = k ∨ i = k + 1 → ¬ (a = 1 ∨ a = 4)) → F a i = r_two F k (r_new (F 0 k) (mt_pl F k) (F 2 k) (F 3 k)) (r_new (F 0 (k + 1)) (mt_pl F k) (F 2 (k + 1)) (F 3 (k + 1))) a i := by
      intro i hi
      unfold r_two
      by_cases q : i = k
      · rw [if_pos q, r_new_F ha (hi (Or.inl q)), q]
      · by_cases q2 : i = k + 1
        · rw [if_neg q, if_pos q2, r_new_F ha (hi (Or.inr q2)), q2]
        · rw [if_neg q, if_neg q2]
    unfold mt_left r_rem
    by_cases q : j < mt_gone F k
    · rw [if_pos q, if_pos q]
      exact two j (fun q2 w => hz ⟨w, by omega, by omega⟩)
    · rw [if_neg q, if_neg q]
      exact two (j + 1) (fun q2 w => hz ⟨w, by omega, by omega⟩)

