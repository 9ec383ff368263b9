def plc (F : RF) (k : Nat) (y : Int) : RF := fun a j => if (a = 1 ∨ a = 4) ∧ (j = k ∨ j = k + 1) then y else F a j
theorem plc0 (F : RF) (k : Nat) (y : Int) (j : Nat) : plc F k y 0 j = F 0 j := by simp [plc]
theorem plc2 (F : RF) (k : Nat) (y : Int) (j : Nat) : plc F k y 2 j = F 2 j := by simp [plc]
theorem plc3 (F : RF) (k : Nat) (y : Int) (j : Nat) : plc F k y 3 j = F 3 j := by simp [plc]
theorem plc1a (F : RF) (k : Nat) (y : Int) : plc F k y 1 k = y := by simp [plc]
theorem plc1b (F : RF) (k : Nat) (y : Int) : plc F k y 1 (k + 1) = y := by simp [plc]
theorem plc4a (F : RF) (k : Nat) (y : Int) : plc F k y 4 k = y := by simp [plc]
theorem plc4b (F : RF) (k : Nat) (y : Int) : plc F k y 4 (k + 1) = y := by simp [plc]
theorem plcn (F : RF) (k : Nat) (y : Int) {a j : Nat} (h1 : ¬ j = k) (h2 : ¬ j = k + 1) : plc F k y a j = F a j := by simp [plc, h1, h2]
theorem mrg_eq {F : RF} {k : Nat} (h : F 0 k = 0) : ∀ a j, a < 5 → r_rem (mrg (plc F k (mt_pl F k)) k) (k + 1) a j = r_rem (r_two F k (mt_merge F k) (mt_merge F k)) (k + 1) a j := by
  intro a j ha
  unfold r_rem
  by_cases q : j < k + 1
  · rw [if_pos q, if_pos q]
    unfold mrg r_two mt_merge r_new
    by_cases q2 : j = k
    · rw [if_pos q2, if_pos q2, plc2, plc3, plc2, plc3]
      rcases a5 ha with rfl | rfl | rfl | rfl | rfl
      · simp [plc0, h]
      · simp [plc1a]
      · simp
      · simp
      · simp [plc4a]
    · rw [if_neg q2, if_neg q2, if_neg (by omega), plcn F k _ q2 (by omega)]
  · rw [if_neg q, if_neg q]
    unfold mrg r_two
    rw [if_neg (by omega), if_neg (by omega), if_neg (by omega), plcn F k _ (by omega) (by omega)]
theorem swp_eq {F : RF} {k : Nat} (h : F 0 k = 0) (h2 : F 0 (k + 1) = 0) : ∀ a j, a < 5 → swp (plc F k (mt_pl F k)) k a j = mt_swap F k a j := by
  intro a j ha
  unfold swp mt_swap r_two r_new
  by_cases q2 : j = k
  · rw [if_neg (by omega), if_pos q2, if_pos q2]
    rcases a5 ha with rfl | rfl | rfl | rfl | rfl
    · simp [plc0, h2]
    · simp [plc1b]
    · simp [plc2]
    · simp [plc3]
    · simp [plc4b]
  · by_cases q : j = k + 1
    · rw [if_pos q, if_neg q2, if_pos q]
      rcases a5 ha with rfl | rfl | rfl | rfl | rfl
      · simp [plc0, h]
      · simp [plc1b]
      · simp [plc2]
      · simp [plc3]
      · simp [plc4b]
    · rw [if_neg q, if_neg q2, if_neg q2, if_neg q, plcn F k _ q2 q]
theorem abs_sym (x y : Int) : r_abs (x - y) = r_abs (y - x) := by unfold r_abs; split <;> split <;> omega
theorem mt_c1 {F : RF} {n k : Nat} (h : F 0 k = 0) (h2 : F 0 (k + 1) = 0) : (msh n (plc F k (mt_pl F k)) k).1 = (mt n F k).1 ∧ (msh n (plc F k (mt_pl F k)) k).2.2 + k = (mt n F k).2.2 + 1 ∧ ∀ a j, a < 5 → (msh n (plc F k (mt_pl F k)) k).2.1 a j = (mt n F k).2.1 a j := by
  have e3 : swp (plc F k (mt_pl F k)) k 3 k = F 3 (k + 1) ∧ swp (plc F k (mt_pl F k)) k 3 (k + 1) = F 3 k := by constructor <;> simp [swp, plc3]
  unfold mt
  rw [if_pos ⟨h, h2⟩]
  by_cases t : 0 < F 2 k * F 2 (k + 1)
  · rw [msh_m (by rw [plc2, plc2]; exact t), if_neg (fun z => z t)]
    exact ⟨rfl, Nat.add_comm _ _, mrg_eq h⟩
  · rw [if_pos t]
    by_cases r : F 3 k ≠ F 3 (k + 1) ∧ n < 8
    · rw [msh_p (by rw [plc2, plc2]; exact t) (by rw [e3.1, e3.2]; exact ⟨fun z => r.1 z.symm, r.2⟩), if_pos r]
      refine ⟨rfl, by show 3 + k = k + 2 + 1; omega, fun a j ha => ?_⟩
      show r_ins _ _ _ a j = r_ins _ _ _ a j
      unfold r_ins
      rw [swp_eq h h2 a j ha, swp_eq h h2 a (j - 1) ha]
      have em : msn (swp (plc F k (mt_pl F k)) k) k = r_new 1 (mt_pl F k) ((F 2 k + F 2 (k + 1)).tdiv 10) (r_abs (F 3 k - F 3 (k + 1))) := by
        unfold msn
        rw [e3.1, e3.2, abs_sym]
        have e1 : swp (plc F k (mt_pl F k)) k 1 k = mt_pl F k := by simp [swp, plc1b]
        have e2 : swp (plc F k (mt_pl F k)) k 2 k = F 2 (k + 1) ∧ swp (plc F k (mt_pl F k)) k 2 (k + 1) = F 2 k := by constructor <;> simp [swp, plc2]
        rw [e1, e2.1, e2.2, Int.add_comm]
      rw [em]
    · rw [msh_t (by rw [plc2, plc2]; exact t) (by rw [e3.1, e3.2]; exact fun z => r ⟨fun w => z.1 w.symm, z.2⟩), if_neg r]
      exact ⟨rfl, by show 2 + k = k + 1 + 1; omega, swp_eq h h2⟩
theorem plc_sp (F : RF) (k : Nat) (y : Int) (x o : Nat) : mt_sp (plc F k y) x o = mt_sp F x o ∧ mt_st (plc F k y) x o = mt_st F x o := by
  unfold mt_sp mt_st
  rw [plc0, plc2, plc2, plc3]
  exact ⟨rfl, rfl⟩
theorem pas_eq0 {F : RF} {k : Nat} (h : F 0 k = 0) : ∀ a j, a < 5 → swp (psd (plc F k (mt_pl F k)) k (k + 1)) k a j = mt_pass F k a j := by
  intro a j ha
  unfold mt_pass
  rw [if_pos h]
  unfold swp r_two r_new
  by_cases q2 : j = k
  · rw [if_neg (by omega), if_pos q2, if_pos q2]
    rcases a5 ha with rfl | rfl | rfl | rfl | rfl
    · simp [psd, plc0]
    · simp [psd, plc1b]
    · simp [psd, (plc_sp F k _ k (k + 1)).1]
    · simp [psd, plc3]
    · simp [psd, plc4b]
  · by_cases q : j = k + 1
    · rw [if_pos q, if_neg q2, if_pos q]
      rcases a5 ha with rfl | rfl | rfl | rfl | rfl
      · simp [psd, plc0, h]
      · simp [psd, plc1b]
      · simp [psd, plc2]
      · simp [psd, (plc_sp F k _ k (k + 1)).2]
      · simp [psd, plc4b]
    · rw [if_neg q, if_neg q2, if_neg q2, if_neg q]
      unfold psd
      rw [if_neg (fun z => q z.2), if_neg (fun z => q2 z.2), plcn F k _ q2 q]
theorem pas_eq1 {F : RF} {k : Nat} (h : ¬ F 0 k = 0) (h2 : F 0 (k + 1) = 0) : ∀ a j, a < 5 → swp (psd (plc F k (mt_pl F k)) (k + 1) k) k a j = mt_pass F k a j := by
  intro a j ha
  unfold mt_pass
  rw [if_neg h]
  unfold swp r_two r_new
  by_cases q2 : j = k
  · rw [if_neg (by omega), if_pos q2, if_pos q2]
    rcases a5 ha with rfl | rfl | rfl | rfl | rfl
    · simp [psd, plc0, h2]
    · simp [psd, plc1b]
    · simp [psd, plc2]
    · simp [psd, (plc_sp F k _ (k + 1) k).2]
    · simp [psd, plc4b]
  · by_cases q : j = k + 1
    · rw [if_pos q, if_neg q2, if_pos q]
      rcases a5 ha with rfl | rfl | rfl | rfl | rfl
      · simp [psd, plc0]
      · simp [psd, plc1b]
      · simp [psd, (plc_sp F k _ (k + 1) k).1]
      · simp [psd, plc3]
      · simp [psd, plc4b]
    · rw [if_neg q, if_neg q2, if_neg q2, if_neg q]
      unfold psd
      rw [if_neg (fun z => q2 z.2), if_neg (fun z => q z.2), plcn F k _ q2 q]
theorem lef_eq (F : RF) (k : Nat) : ∀ a j, a < 5 → plc F k (mt_pl F k) a j = r_two F k (r_new (F 0 k) (mt_pl F k) (F 2 k) (F 3 k)) (r_new (F 0 (k + 1)) (mt_pl F k) (F 2 (k + 1)) (F 3 (k + 1))) a j := by
  intro a j ha
  unfold r_two r_new
  by_cases q2 : j = k
  · rw [if_pos q2, q2]
    rcases a5 ha with rfl | rfl | rfl | rfl | rfl
    · simp [plc0]
    · simp [plc1a]
    · simp [plc2]
    · simp [plc3]
    · simp [plc4a]
  · by_cases q : j = k + 1
    · rw [if_neg q2, if_pos q, q]
      rcases a5 ha with rfl | rfl | rfl | rfl | rfl
      · simp [plc0]
      · simp [plc1b]
      · simp [plc2]
      · simp [plc3]
      · simp [plc4b]
    · rw [if_neg q2, if_neg q, plcn F k _ q2 q]
theorem lef_rem (F : RF) (k : Nat) : ∀ a j, a < 5 → r_rem (plc F k (mt_pl F k)) (mt_gone F k) a j = mt_left F k a j := by
  intro a j ha
  unfold mt_left r_rem
  rw [lef_eq F k a j ha, lef_eq F k a (j + 1) ha]
theorem psd_cg {G G1 : RF} {sh ot : Nat} (h : ∀ a j, a < 5 → j < 8 → G a j = G1 a j) (h1 : sh < 8) (h2 : ot < 8) : ∀ a j, a < 5 → j < 8 → psd G sh ot a j = psd G1 sh ot a j := by
  intro a j ha hj
  unfold psd mt_sp mt_st
  rw [h a j ha hj, h 0 ot (by decide) h2, h 2 ot (by decide) h2, h 2 sh (by decide) h1, h 3 sh (by decide) h1]
theorem swp_cg {G G1 : RF} {k : Nat} (h : ∀ a j, a < 5 → j < 8 → G a j = G1 a j) (hk : k + 1 < 8) : ∀ a j, a < 5 → j < 8 → swp G k a j = swp G1 k a j := by
  intro a j ha hj
  unfold swp
  rw [h a j ha hj, h a (k + 1) ha hk, h a k ha (by omega)]
theorem mrg_cg {G G1 : RF} {k : Nat} (h : ∀ a j, a < 5 → j < 8 → G a j = G1 a j) (hk : k + 1 < 8) : ∀ a j, a < 5 → j < 8 → mrg G k a j = mrg G1 k a j := by
  intro a j ha hj
  unfold mrg
  rw [h a j ha hj, h a k ha (by omega), h 2 k (by decide) (by omega), h 3 k (by decide) (by omega), h 2 (k + 1) (by decide) hk, h 3 (k + 1) (by decide) hk]
theorem msh_cg {G G1 : RF} {n k : Nat} (h : ∀ a j, a < 5 → j < 8 → G a j = G1 a j) (hk : k + 1 < n) (hn : n ≤ 8) : (msh n G k).1 = (msh n G1 k).1 ∧ (msh n G k).2.2 = (msh n G1 k).2.2 ∧ ∀ a j, a < 5 → j < (msh n G k).1 → (msh n G k).2.1 a j = (msh n G1 k).2.1 a j := by
  have hs := swp_cg h (show k + 1 < 8 by omega)
  have e2 : 0 < G 2 k * G 2 (k + 1) ↔ 0 < G1 2 k * G1 2 (k + 1) := by rw [h 2 k (by decide) (by omega), h 2 (k + 1) (by decide) (by omega)]
  have e3 : (swp G k 3 k ≠ swp G k 3 (k + 1) ∧ n < 8) ↔ (swp G1 k 3 k ≠ swp G1 k 3 (k + 1) ∧ n < 8) := by rw [hs 3 k (by decide) (by omega), hs 3 (k + 1) (by decide) (by omega)]
  by_cases t : 0 < G 2 k * G 2 (k + 1)
  · rw [msh_m t, msh_m (e2.mp t)]
    exact ⟨rfl, rfl, rem_cg (mrg_cg h (by omega)) hn⟩
  · by_cases r : swp G k 3 k ≠ swp G k 3 (k + 1) ∧ n < 8
    · rw [msh_p t r, msh_p (fun z => t (e2.mpr z)) (e3.mp r)]
      refine ⟨rfl, rfl, fun a j ha hj => ?_⟩
      have em : msn (swp G k) k = msn (swp G1 k) k := by
        unfold msn
        rw [hs 1 k (by decide) (by omega), hs 2 k (by decide) (by omega), hs 2 (k + 1) (by decide) (by omega), hs 3 k (by decide) (by omega), hs 3 (k + 1) (by decide) (by omega)]
      have hj : j < n + 1 := hj
      show r_ins (swp G k) (k + 1) (msn (swp G k) k) a j = r_ins (swp G1 k) (k + 1) (msn (swp G1 k) k) a j
      rw [em]
      exact ins_Ag (n := n) (by omega) (fun a j ha hj => hs a j ha (by omega)) _ a j ha hj
    · rw [msh_t t r, msh_t (fun z => t (e2.mpr z)) (fun z => r (e3.mpr z))]
      exact ⟨rfl, rfl, fun a j ha hj => hs a j ha (by have : j < n := hj; omega)⟩

