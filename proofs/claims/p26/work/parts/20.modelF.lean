theorem pl_step {F G G1 : RF} {k i : Nat} {x : Int} (hk : k ≤ i) (hG : ∀ a j, a < 5 → j < 8 → G a j = if (a = 1 ∨ a = 4) ∧ k ≤ j ∧ j < i then x else F a j) (h1 : ∀ a j, a < 5 → j < 8 → G1 a j = if (a = 1 ∨ a = 4) ∧ j = i then x else G a j) : ∀ a j, a < 5 → j < 8 → G1 a j = if (a = 1 ∨ a = 4) ∧ k ≤ j ∧ j < i + 1 then x else F a j := by
  intro a j ha hj
  rw [h1 a j ha hj]
  by_cases q : (a = 1 ∨ a = 4) ∧ j = i
  · rw [if_pos q, if_pos (by omega)]
  · rw [if_neg q, hG a j ha hj]
    by_cases q2 : (a = 1 ∨ a = 4) ∧ k ≤ j ∧ j < i
    · rw [if_pos q2, if_pos (by omega)]
    · rw [if_neg q2, if_neg (by omega)]
theorem mv_sA {F T G1 : RF} {cnt k i : Nat} (hi : i < cnt) (hc : cnt ≤ 8) (hk : k = (mv F i).1) (hA : ∀ a j, a < 5 → j < k → T a j = (mv F i).2 a j) (hB : ∀ a j, a < 4 → j < cnt - i → T a (k + j) = F a (i + j)) (hs : mv_st F i) (h1 : ∀ a j, a < 5 → j < 8 → G1 a j = if j = k then mvf F i a else T a j) :
    k + 1 = (mv F (i + 1)).1 ∧ (∀ a j, a < 5 → j < k + 1 → G1 a j = (mv F (i + 1)).2 a j) ∧ ∀ a j, a < 4 → j < cnt - (i + 1) → G1 a (k + 1 + j) = F a (i + 1 + j) := by
  have e : mv F (i + 1) = ((mv F i).1 + 1, fun a j => if j = (mv F i).1 then mvf F i a else (mv F i).2 a j) := by
    show (if mv_st F i then _ else _) = _
    rw [if_pos hs]
  have hl := mv_le F i
  rw [e]
  refine ⟨by rw [hk], fun a j ha hj => ?_, fun a j ha hj => ?_⟩
  · show _ = if j = (mv F i).1 then mvf F i a else (mv F i).2 a j
    rw [h1 a j ha (by omega), ← hk]
    by_cases q : j = k
    · rw [if_pos q, if_pos q]
    · rw [if_neg q, if_neg q]; exact hA a j ha (by omega)
  · rw [h1 a _ (by omega) (by omega), if_neg (by omega), show k + 1 + j = k + (j + 1) by omega, hB a (j + 1) ha (by omega), show i + (j + 1) = i + 1 + j by omega]
theorem mv_sB {F T G G1 : RF} {cnt k i : Nat} (hi : i < cnt) (hc : cnt ≤ 8) (hk : k = (mv F i).1) (hA : ∀ a j, a < 5 → j < k → T a j = (mv F i).2 a j) (hB : ∀ a j, a < 4 → j < cnt - i → T a (k + j) = F a (i + j)) (hs : ¬ mv_st F i) (h0 : ∀ a j, a < 5 → j < 8 → ¬ j = k → G a j = T a j) (h1 : ∀ a j, a < 5 → j < k + (cnt - i) - 1 → G1 a j = r_rem G k a j) :
    k = (mv F (i + 1)).1 ∧ (∀ a j, a < 5 → j < k → G1 a j = (mv F (i + 1)).2 a j) ∧ ∀ a j, a < 4 → j < cnt - (i + 1) → G1 a (k + j) = F a (i + 1 + j) := by
  have e : mv F (i + 1) = mv F i := by
    show (if mv_st F i then _ else _) = _
    rw [if_neg hs]
  have hl := mv_le F i
  rw [e]
  refine ⟨hk, fun a j ha hj => ?_, fun a j ha hj => ?_⟩
  · rw [h1 a j ha (by omega)]
    unfold r_rem
    rw [if_pos hj, h0 a j ha (by omega) (by omega)]
    exact hA a j ha hj
  · rw [h1 a _ (by omega) (by omega)]
    unfold r_rem
    rw [if_neg (by omega), h0 a _ (by omega) (by omega) (by omega), show k + j + 1 = k + (j + 1) by omega, hB a (j + 1) ha (by omega), show i + (j + 1) = i + 1 + j by omega]
theorem mvf0 (F : RF) (i : Nat) : mvf F i 0 = F 0 i := by simp [mvf]
theorem mvf1 (F : RF) (i : Nat) : mvf F i 1 = (if F 1 i + F 2 i < 0 then 0 else if 100000 < F 1 i + F 2 i then 100000 else F 1 i + F 2 i) := by simp [mvf]
theorem mvf2 (F : RF) (i : Nat) : mvf F i 2 = (if mv_bey F i then -(F 2 i) else F 2 i) := by simp [mvf]
theorem mvf3 (F : RF) (i : Nat) : mvf F i 3 = (if mv_bey F i then r_min (3 * F 3 i / 2) 900 else F 3 i) := by simp [mvf]
theorem mvf4 (F : RF) (i : Nat) : mvf F i 4 = F 1 i := by simp [mvf]
theorem bey_iff {F : RF} {i : Nat} {x y : Int64} (hx : x.toInt = F 1 i) (hy : y.toInt = F 2 i) (r1 : 0 ≤ F 1 i ∧ F 1 i ≤ 100000) (r2 : -900 ≤ F 2 i ∧ F 2 i ≤ 900) : w_in (x + y) 0 100000 ↔ ¬ mv_bey F i := by
  have e : (x + y).toInt = F 1 i + F 2 i := by rw [tadd (K := 100000) (by omega) (by omega) (by omega), hx, hy]
  unfold w_in mv_bey
  rw [Int64.le_iff_toInt_le, Int64.le_iff_toInt_le, e]
  show (0 ≤ F 1 i + F 2 i ∧ F 1 i + F 2 i ≤ 100000) ↔ _
  omega
theorem neg_t {x : Int64} (h : -900 ≤ x.toInt ∧ x.toInt ≤ 900) : (-x).toInt = -x.toInt := by
  rw [Int64.toInt_neg]; exact fb_bmodL (by omega) (by omega)
theorem pl_end {a j k i rt : Nat} {x y : Int} (h : i = rt + 1) : (if (a = 1 ∨ a = 4) ∧ k ≤ j ∧ j < i then x else y) = (if (a = 1 ∨ a = 4) ∧ k ≤ j ∧ j ≤ rt then x else y) := by
  by_cases q9 : (a = 1 ∨ a = 4) ∧ k ≤ j ∧ j < i
  · rw [if_pos q9, if_pos (by omega)]
  · rw [if_neg q9, if_neg (by omega)]

theorem mvA {F T G1 : RF} {i k : Nat} (h0 : G1 0 k = F 0 i) (h1 : G1 1 k = mvf F i 1) (h2 : G1 2 k = mvf F i 2) (h3 : G1 3 k = mvf F i 3) (h4 : G1 4 k = F 1 i) (hh : ∀ a j, a < 5 → j < 8 → ¬ j = k → G1 a j = T a j) : ∀ a j, a < 5 → j < 8 → G1 a j = if j = k then mvf F i a else T a j := by
  intro a j ha hj
  by_cases q : j = k
  · rw [if_pos q, q]
    rcases a5 ha with rfl | rfl | rfl | rfl | rfl
    · rw [h0, mvf0]
    · exact h1
    · exact h2
    · exact h3
    · rw [h4, mvf4]
  · rw [if_neg q]; exact hh a j ha hj q
theorem fS_hh {S S1 Bf B1 : Nat → Int64} {k : Nat} (h0 : ∀ j, j < 8 → ¬ j = k → S1 (211 + j) = S (211 + j)) (h1 : ∀ j, j < 8 → ¬ j = k → S1 (219 + j) = S (219 + j)) (h2 : ∀ j, j < 8 → ¬ j = k → S1 (227 + j) = S (227 + j)) (h3 : ∀ j, j < 8 → ¬ j = k → S1 (235 + j) = S (235 + j)) (h4 : ∀ j, j < 8 → ¬ j = k → B1 j = Bf j) : ∀ a j, a < 5 → j < 8 → ¬ j = k → fS S1 B1 a j = fS S Bf a j := by
  intro a j ha hj hk
  rcases a5 ha with rfl | rfl | rfl | rfl | rfl
  · rw [fS0, fS0, h0 j hj hk]
  · rw [fS1, fS1, h1 j hj hk]
  · rw [fS2, fS2, h2 j hj hk]
  · rw [fS3, fS3, h3 j hj hk]
  · rw [fS4, fS4, h4 j hj hk]
