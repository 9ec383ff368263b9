/-! one command of the law (second part) -/
theorem thr_1 {t m v : Int64} (h : ¬ (w_in t 1 400 ∧ w_in m 1 50)) : w_thr_step t m v = 1 := by
  unfold w_thr_step
  first | exact if_neg h | (by_cases q : w_in t 1 400 <;> by_cases q2 : w_in m 1 50 <;> simp_all)
theorem thr_2 {t m v : Int64} (h : w_in t 1 400 ∧ w_in m 1 50) (h2 : ¬ v + m ≤ 300) : w_thr_step t m v = 2 := by
  unfold w_thr_step
  first | (rw [if_pos h, if_neg h2]) | (obtain ⟨q, q2⟩ := h; simp_all)
section RW
variable {S : Nat → Int64} {w : NW} {k : Nat}
theorem Rel.steps_no (h : Rel S w k) {v : Int32} {m9 : Nat} (e2 : v = nI m9) (h2 : 1 ≤ m9 ∧ m9 ≤ 50) (hns : ¬ w.T.ns + m9 ≤ 300) : ¬ S 7 + v.toInt64 ≤ 300 := by
  have := h.1.2.2.2
  rw [h.S7, e2, nI_l (by omega), lN_add]
  exact fun z => hns ((lN_le (a := w.T.ns + m9) (b := 300) (by omega) (by omega)).mp z)
theorem Rel.in_front (h : Rel S w k) {v : Int32} (q : w_in v.toInt64 0 (S 210 - 1)) : ∃ c, v = nI c ∧ c < w.cnt := by
  have hn := h.2.2.1.2.1
  rw [h.2.2.1.1] at q
  rcases Nat.eq_zero_or_pos w.cnt with z | z
  · rw [z] at q
    have := Int64.le_iff_toInt_le.mp (Int64.le_trans q.1 q.2)
    exact absurd this (by decide)
  · rw [lNm1 (by omega)] at q
    obtain ⟨c, e, h1⟩ := w_nat (lo := 0) (by omega) (by omega) q
    exact ⟨c, e, by omega⟩
theorem nIm1 {n : Nat} (hn : n < 1000) : (nI n - 1).toInt64 = lN n - 1 := by
  rcases Nat.eq_zero_or_pos n with z | z
  · subst z; decide
  · obtain ⟨j, rfl⟩ : ∃ j, n = j + 1 := ⟨n - 1, by omega⟩
    rw [nI_pred, nI_l (by omega), lNm1 (by omega)]
    rfl
theorem Rel.x_front (h : Rel S w k) {v : Int32} (q : x_in v 0 (nI w.cnt - 1)) : w_in v.toInt64 0 (S 210 - 1) := by
  have hn := h.2.2.1.2.1
  rw [h.2.2.1.1]
  exact (xw (by decide) (nIm1 (by omega))).mp q
theorem Rel.x_node (h : Rel S w k) {v : Int32} (q : w.nd = 0 ∨ ¬ w_in v.toInt64 0 (S 244)) : ¬ x_in v 0 (nI w.nd - 1) := by
  intro z
  by_cases hn : w.nd = 0
  · rw [hn] at z
    have := Int32.le_iff_toInt_le.mp (Int32.le_trans z.1 z.2)
    exact absurd this (by decide)
  · obtain ⟨la, e, -, p2, -, p4, -⟩ := h.pipe hn
    rcases q with q | q
    · exact hn q
    · rw [p2] at q
      rw [e] at z
      exact q ((xw (by decide) ((nIm1 (n := la + 1) (by omega)).trans (lNm1 (n := la + 1) (by omega)))).mp z)
theorem Rel.m_node (h : Rel S w k) {v : Int32} (q : w.nd = 0 ∨ ¬ w_in v.toInt64 0 (S 244)) : S 243 = 0 ∨ ¬ w_in v.toInt64 0 (S 244) := by
  rcases q with q | q
  · exact Or.inl (h.nopipe q)
  · exact Or.inr q
end RW

set_option maxHeartbeats 2000000 in
set_option maxRecDepth 100000 in
theorem k_cell {p : Program} {e : Env} {R : Room} {s : State} {m : MethodId} {below : List Frame} {meth : Method} {c : Code} {H : Heap} {locs : List Loc} {cells slots : Nat} {Q : State → Prop} {ls : Array Slot} {A : Nat → Prop} {a0 : Cond} (l : Launch) (D : va_G) (ct : Nat → ClassId) (st : Nat → Nat) {b9 L9 : Nat} {xs : Nat → Int32} (C0 : LX p l R s m c b9 L9 xs D ct st A a0) (i : Nat) (hi : i + 7 ≤ L9) (hroom : cells + 39 ≤ R.cells ∧ slots + 3726 ≤ R.slots) (a : AD) (w : NW) (x : SC) (sl : Nat → Option (SD × NW)) {k : Nat} (hk : k < 512) (hI : Inv k w x sl) (hP : va_P D classes (lawW ct a w x ++ zsW ct sl) H) (hD : va_D A (lawW ct a w x ++ zsW ct sl)) (hS : va_S A s.heap H locs) (hl : lv_has ls 8 (bas a b9 i)) (kk : KK p l e R s m b9 below meth c Q D ct A a i k cells slots) : W p l e R s m #[Value.ref b9] below meth c H locs cells slots Q (F0 m 244 ls []) := by
  have h32 := hI.1.n32
  by_cases q0 : w_in (xs (i + 1)).toInt64 0 (x.S 4 - 1)
  · obtain ⟨k9, e1, hk9⟩ := hI.1.in_cell q0
    by_cases q : w_in (xs (i + 2)).toInt64 1 1000000 ∧ w_in (xs (i + 3)).toInt64 (-10000000) 10000000 ∧ w_in (xs (i + 4)).toInt64 0 1000000000 ∧ w_in (xs (i + 5)).toInt64 0 (xs (i + 2)).toInt64
    · obtain ⟨q2, q3, q4, q5⟩ := q
      obtain ⟨ma, e2, h2⟩ := w_nat (v := xs (i + 2)) (lo := 1) (hi := 1000000) (by decide) (by decide) q2
      obtain ⟨en, e4, h4⟩ := w_nat (v := xs (i + 4)) (lo := 0) (hi := 1000000000) (by decide) (by decide) q4
      rw [e2, nI_l (by omega)] at q5
      obtain ⟨fu, e5, h5⟩ := w_nat (v := xs (i + 5)) (lo := 0) (hi := ma) (by decide) (by omega) q5
      by_cases hw : 0 ≤ (w_within (lN ma) (xs (i + 3)).toInt64 (lN en)).toInt
      · exact s_cell_ok l D ct st C0 i hi ⟨by omega, by omega⟩ a w x k9 ma (xs (i + 3)) en fu w.T.n k9 ma (xs (i + 3)) en fu (h32.2) (hk9) (h2) (q3) (h4.2) (h5.2) (hw) (by have := hI.1.2.1.2.2; omega) (hI.1.S4) (h32.2) (hk9) (h2) (q3) (h4.2) (h5.2) (hw) e1 e2 rfl e4 e5 e1 e2 rfl e4 e5 hP hD hS hl (fun mM1 mP1 mE1 mF1 td1 no1 s1M H1 locs1 ls1 hl1 hqL hqM hP1 hD1 hS1 => kk ({ w with cS := w.cS + 1, no := no1, T := { w.T with M := mM1, P := mP1, E := mE1, F := mF1, td := td1 } }) ({ x with th := 0, S := s1M }) sl H1 locs1 ls1 _ _ ⟨hI.1.cell hk hk9 h2 q3 h4.2 h5.2 hw hqL hqM, hI.2.mono rfl rfl rfl⟩ (by omega) (by omega) hl1 hP1 hD1 hS1)
      · exact s_cell_b3 l D ct st C0 i hi ⟨by omega, by omega⟩ a w x k9 ma (xs (i + 3)) en fu w.T.n k9 ma (xs (i + 3)) en fu (h32.2) (hk9) (h2) (q3) (h4.2) (h5.2) (by omega) (hI.1.S4) (h32.2) (hk9) (h2) (q3) (h4.2) (h5.2) (by omega) e1 e2 rfl e4 e5 e1 e2 rfl e4 e5 hP hD hS hl (fun  H1 locs1 ls1 hl1 hqL hqM hP1 hD1 hS1 => kk w ({ x with th := 3 }) sl H1 locs1 ls1 _ _ ⟨hI.1.mono (Nat.le_succ k), hI.2.mono rfl rfl rfl⟩ (by omega) (by omega) hl1 hP1 hD1 hS1)
    · exact s_cell_b2 l D ct st C0 i hi ⟨by omega, by omega⟩ a w x k9 _ _ _ _ _ _ _ _ _ (h32.2) (hk9) (q) (q0) (q) e1 rfl rfl rfl rfl rfl rfl rfl rfl rfl hP hD hS hl (fun  H1 locs1 ls1 hl1 hqL hqM hP1 hD1 hS1 => kk w ({ x with th := 2 }) sl H1 locs1 ls1 _ _ ⟨hI.1.mono (Nat.le_succ k), hI.2.mono rfl rfl rfl⟩ (by omega) (by omega) hl1 hP1 hD1 hS1)
  · exact s_cell_b1 l D ct st C0 i hi ⟨by omega, by omega⟩ a w x _ _ _ _ _ _ _ _ _ _ (fun z => q0 (hI.1.x_cell z)) (⟨by omega, h32.2⟩) (q0) rfl rfl rfl rfl rfl rfl rfl rfl rfl rfl hP hD hS hl (fun  H1 locs1 ls1 hl1 hqL hqM hP1 hD1 hS1 => kk w ({ x with th := 1 }) sl H1 locs1 ls1 _ _ ⟨hI.1.mono (Nat.le_succ k), hI.2.mono rfl rfl rfl⟩ (by omega) (by omega) hl1 hP1 hD1 hS1)
set_option maxHeartbeats 2000000 in
set_option maxRecDepth 100000 in
theorem k_step {p : Program} {e : Env} {R : Room} {s : State} {m : MethodId} {below : List Frame} {meth : Method} {c : Code} {H : Heap} {locs : List Loc} {cells slots : Nat} {Q : State → Prop} {ls : Array Slot} {A : Nat → Prop} {a0 : Cond} (l : Launch) (D : va_G) (ct : Nat → ClassId) (st : Nat → Nat) {b9 L9 : Nat} {xs : Nat → Int32} (C0 : LX p l R s m c b9 L9 xs D ct st A a0) (i : Nat) (hi : i + 7 ≤ L9) (hroom : cells + 39 ≤ R.cells ∧ slots + 3726 ≤ R.slots) (a : AD) (w : NW) (x : SC) (sl : Nat → Option (SD × NW)) {k : Nat} (hk : k < 512) (hI : Inv k w x sl) (hP : va_P D classes (lawW ct a w x ++ zsW ct sl) H) (hD : va_D A (lawW ct a w x ++ zsW ct sl)) (hS : va_S A s.heap H locs) (hl : lv_has ls 8 (bas a b9 i)) (kk : KK p l e R s m b9 below meth c Q D ct A a i k cells slots) : W p l e R s m #[Value.ref b9] below meth c H locs cells slots Q (F0 m 388 ls []) := by
  have h32 := hI.1.n32
  by_cases q : w_in (xs (i + 1)).toInt64 1 400 ∧ w_in (xs (i + 2)).toInt64 1 50
  · obtain ⟨q1, q2⟩ := id q
    obtain ⟨t9, e1, h1⟩ := w_nat (v := xs (i + 1)) (lo := 1) (hi := 400) (by decide) (by decide) q1
    obtain ⟨m9, e2, h2⟩ := w_nat (v := xs (i + 2)) (lo := 1) (hi := 50) (by decide) (by decide) q2
    by_cases hns : w.T.ns + m9 ≤ 300
    · exact s_step_ok l D ct st C0 i hi ⟨by omega, by omega⟩ a w x t9 m9 w.T.g w.T.n w.T.lf w.T.rg t9 m9 w.T.ns (hI.1.S0.2) (h32.1) (h32.2) (hI.1.1.1.1.2.2.2.2.1.1) (hI.1.1.1.1.2.2.2.2.2.1.1) (hI.1.okc) (hI.1.1.1.rng.1) (hI.1.1.1.rng.2) (h1) (h2) (hns) (by have := hI.1.2.1.2.2; omega) (hI.1.1.1.1) (h1) (h2) (⟨hI.1.S7, hns⟩) (fun _ _ _ _ _ _ _ _ _ _ _ _ _ _ _ _ _ _ _ _ _ _ _ _ _ _ _ _ _ _ _ _ _ _ g1 g2 => g1.2.trans (congrArg (fun z => (nI z).toInt64) (hI.1.step hk h1 h2 hns g1.1 g2).1)) e1 e2 e1 e2 hP hD hS hl (fun ns1 c9 k9 mM1 mP1 mE1 mF1 cm1 gr1 gs1 no1 vs1 vo1 k01 k11 k21 pa91 o01 o11 o21 o31 x01 x11 x21 x31 pb1 bq1 out1 bu1M he1M s1M goes1M fresh1M k9M H1 locs1 ls1 hl1 hqL hqM hP1 hD1 hS1 => kk ({ w with cS := c9, no := no1, T := { w.T with ns := ns1, M := mM1, P := mP1, E := mE1, F := mF1, cm := cm1, gr := gr1, gs := gs1 } }) ({ x with bq := bq1, vs := vs1, vo := vo1, k0 := k01, k1 := k11, k2 := k21, pa9 := pa91, o0 := o01, o1 := o11, o2 := o21, o3 := o31, x0 := x01, x1 := x11, x2 := x21, x3 := x31, pb := pb1, Ou := out1, th := 0, bu := bu1M, he := he1M, S := s1M, go := goes1M, fr := fresh1M }) sl H1 locs1 ls1 _ _ ⟨(hI.1.step hk h1 h2 hns hqL.1 hqM).2, hI.2.mono rfl rfl rfl⟩ (by omega) (by omega) hl1 hP1 hD1 hS1)
    · exact s_step_b2 l D ct st C0 i hi ⟨by omega, by omega⟩ a w x t9 m9 _ _ (h1) (h2) (⟨by omega, hI.1.1.2.2.2⟩) (fun z => hI.1.steps_no e2 h2 hns z.2.2) (fun _ g => g.trans (thr_2 q (hI.1.steps_no e2 h2 hns))) e1 e2 rfl rfl hP hD hS hl (fun th1M H1 locs1 ls1 hl1 hqL hqM hP1 hD1 hS1 => kk w ({ x with th := th1M }) sl H1 locs1 ls1 _ _ ⟨hI.1.mono (Nat.le_succ k), hI.2.mono rfl rfl rfl⟩ (by omega) (by omega) hl1 hP1 hD1 hS1)
  · exact s_step_b1 l D ct st C0 i hi ⟨by omega, by omega⟩ a w x _ _ _ _ (q) (fun z => q ⟨z.1, z.2.1⟩) (fun _ g => g.trans (thr_1 q)) rfl rfl rfl rfl hP hD hS hl (fun th1M H1 locs1 ls1 hl1 hqL hqM hP1 hD1 hS1 => kk w ({ x with th := th1M }) sl H1 locs1 ls1 _ _ ⟨hI.1.mono (Nat.le_succ k), hI.2.mono rfl rfl rfl⟩ (by omega) (by omega) hl1 hP1 hD1 hS1)
set_option maxHeartbeats 2000000 in
set_option maxRecDepth 100000 in
theorem k_front {p : Program} {e : Env} {R : Room} {s : State} {m : MethodId} {below : List Frame} {meth : Method} {c : Code} {H : Heap} {locs : List Loc} {cells slots : Nat} {Q : State → Prop} {ls : Array Slot} {A : Nat → Prop} {a0 : Cond} (l : Launch) (D : va_G) (ct : Nat → ClassId) (st : Nat → Nat) {b9 L9 : Nat} {xs : Nat → Int32} (C0 : LX p l R s m c b9 L9 xs D ct st A a0) (i : Nat) (hi : i + 7 ≤ L9) (hroom : cells + 39 ≤ R.cells ∧ slots + 3726 ≤ R.slots) (a : AD) (w : NW) (x : SC) (sl : Nat → Option (SD × NW)) {k : Nat} (hk : k < 512) (hI : Inv k w x sl) (hP : va_P D classes (lawW ct a w x ++ zsW ct sl) H) (hD : va_D A (lawW ct a w x ++ zsW ct sl)) (hS : va_S A s.heap H locs) (hl : lv_has ls 8 (bas a b9 i)) (kk : KK p l e R s m b9 below meth c Q D ct A a i k cells slots) : W p l e R s m #[Value.ref b9] below meth c H locs cells slots Q (F0 m 804 ls []) := by
  have h32 := hI.1.n32
  by_cases q : w_in (xs (i + 1)).toInt64 0 2 ∧ w_in (xs (i + 2)).toInt64 0 100000 ∧ w_in (xs (i + 3)).toInt64 (-900) 900 ∧ w_in (xs (i + 4)).toInt64 1 900
  · by_cases hc8 : w.cnt = 8
    · exact s_front_b2 l D ct st C0 i hi ⟨by omega, by omega⟩ a w x _ _ _ _ _ _ _ _ (q) (hc8) (q) (by rw [hI.1.2.2.1.1, hc8]; rfl) rfl rfl rfl rfl rfl rfl rfl rfl hP hD hS hl (fun  H1 locs1 ls1 hl1 hqL hqM hP1 hD1 hS1 => kk w ({ x with th := 2 }) sl H1 locs1 ls1 _ _ ⟨hI.1.mono (Nat.le_succ k), hI.2.mono rfl rfl rfl⟩ (by omega) (by omega) hl1 hP1 hD1 hS1)
    · obtain ⟨q1, q2, q3, q4⟩ := q
      obtain ⟨kd, e1, h1⟩ := w_nat (v := xs (i + 1)) (lo := 0) (hi := 2) (by decide) (by decide) q1
      obtain ⟨pl, e2, h2⟩ := w_nat (v := xs (i + 2)) (lo := 0) (hi := 100000) (by decide) (by decide) q2
      obtain ⟨tg, e4, h4⟩ := w_nat (v := xs (i + 4)) (lo := 1) (hi := 900) (by decide) (by decide) q4
      have hc7 : w.cnt < 8 := by have := hI.1.2.2.1.2.1; omega
      exact s_front_ok l D ct st C0 i hi ⟨by omega, by omega⟩ a w x kd pl (xs (i + 3)) tg w.cnt kd pl (xs (i + 3)) tg (hc7) (h1.2) (h2.2) (q3) (h4) (hI.1.2.2.1.1) (hc7) (h1.2) (h2.2) (q3) (h4) (fun _ _ _ _ _ _ _ _ g1 g2 => g1.2.trans (congrArg (fun z => (nI z).toInt64) (hI.1.front hc7 h1.2 h2.2 q3 h4 g1.1 g2).1)) e1 e2 rfl e4 e1 e2 rfl e4 hP hD hS hl (fun ck1 cp1 ca1 cs1 cg1 out1 s1M before1M H1 locs1 ls1 hl1 hqL hqM hP1 hD1 hS1 => kk ({ w with cnt := w.cnt + 1, ck := ck1, cp := cp1, ca := ca1, cs := cs1, cg := cg1 }) ({ x with Ou := out1, th := 0, S := s1M, Bf := before1M }) sl H1 locs1 ls1 _ _ ⟨(hI.1.front hc7 h1.2 h2.2 q3 h4 hqL.1 hqM).2, hI.2.mono rfl rfl rfl⟩ (by omega) (by omega) hl1 hP1 hD1 hS1)
  · exact s_front_b1 l D ct st C0 i hi ⟨by omega, by omega⟩ a w x _ _ _ _ _ _ _ _ (q) (q) rfl rfl rfl rfl rfl rfl rfl rfl hP hD hS hl (fun  H1 locs1 ls1 hl1 hqL hqM hP1 hD1 hS1 => kk w ({ x with th := 1 }) sl H1 locs1 ls1 _ _ ⟨hI.1.mono (Nat.le_succ k), hI.2.mono rfl rfl rfl⟩ (by omega) (by omega) hl1 hP1 hD1 hS1)
set_option maxHeartbeats 2000000 in
set_option maxRecDepth 100000 in
theorem k_tick {p : Program} {e : Env} {R : Room} {s : State} {m : MethodId} {below : List Frame} {meth : Method} {c : Code} {H : Heap} {locs : List Loc} {cells slots : Nat} {Q : State → Prop} {ls : Array Slot} {A : Nat → Prop} {a0 : Cond} (l : Launch) (D : va_G) (ct : Nat → ClassId) (st : Nat → Nat) {b9 L9 : Nat} {xs : Nat → Int32} (C0 : LX p l R s m c b9 L9 xs D ct st A a0) (i : Nat) (hi : i + 7 ≤ L9) (hroom : cells + 39 ≤ R.cells ∧ slots + 3726 ≤ R.slots) (a : AD) (w : NW) (x : SC) (sl : Nat → Option (SD × NW)) {k : Nat} (hk : k < 512) (hI : Inv k w x sl) (hP : va_P D classes (lawW ct a w x ++ zsW ct sl) H) (hD : va_D A (lawW ct a w x ++ zsW ct sl)) (hS : va_S A s.heap H locs) (hl : lv_has ls 8 (bas a b9 i)) (kk : KK p l e R s m b9 below meth c Q D ct A a i k cells slots) : W p l e R s m #[Value.ref b9] below meth c H locs cells slots Q (F0 m 896 ls []) := by
  have h32 := hI.1.n32
  by_cases q1 : w_in (xs (i + 1)).toInt64 1 100
  · obtain ⟨tt, e1, h1⟩ := w_nat (v := xs (i + 1)) (lo := 1) (hi := 100) (by decide) (by decide) q1
    exact s_tick_ok l D ct st C0 i hi ⟨by omega, by omega⟩ a w x tt w.cnt tt (h1) (hI.1.2.2.1.2.1) (hI.1.2.2.1.2.2.1) (hI.1.2.2.1.1) (hI.1.2.2.1.2.1) (FB.cong hI.1.2.2.1.2.2.1 (hI.1.2.2.1.2.2.2 x.Bf)) (h1) (fun _ _ _ _ _ _ _ _ _ g1 g2 => g1.2.trans (congrArg (fun z => (nI z).toInt64) (hI.1.tick h1.1 g1.1 g2).1)) e1 e1 hP hD hS hl (fun ck1 cp1 ca1 cs1 cg1 c9 out1 s1M before1M H1 locs1 ls1 hl1 hqL hqM hP1 hD1 hS1 => kk ({ w with cnt := c9, ck := ck1, cp := cp1, ca := ca1, cs := cs1, cg := cg1 }) ({ x with Ou := out1, th := 0, S := s1M, Bf := before1M }) sl H1 locs1 ls1 _ _ ⟨(hI.1.tick h1.1 hqL.1 hqM).2, hI.2.mono rfl rfl rfl⟩ (by omega) (by omega) hl1 hP1 hD1 hS1)
  · exact s_tick_bad l D ct st C0 i hi ⟨by omega, by omega⟩ a w x _ _ (q1) (q1) rfl rfl hP hD hS hl (fun  H1 locs1 ls1 hl1 hqL hqM hP1 hD1 hS1 => kk w ({ x with th := 1 }) sl H1 locs1 ls1 _ _ ⟨hI.1.mono (Nat.le_succ k), hI.2.mono rfl rfl rfl⟩ (by omega) (by omega) hl1 hP1 hD1 hS1)
set_option maxHeartbeats 2000000 in
set_option maxRecDepth 100000 in
theorem k_ofFront {p : Program} {e : Env} {R : Room} {s : State} {m : MethodId} {below : List Frame} {meth : Method} {c : Code} {H : Heap} {locs : List Loc} {cells slots : Nat} {Q : State → Prop} {ls : Array Slot} {A : Nat → Prop} {a0 : Cond} (l : Launch) (D : va_G) (ct : Nat → ClassId) (st : Nat → Nat) {b9 L9 : Nat} {xs : Nat → Int32} (C0 : LX p l R s m c b9 L9 xs D ct st A a0) (i : Nat) (hi : i + 7 ≤ L9) (hroom : cells + 39 ≤ R.cells ∧ slots + 3726 ≤ R.slots) (a : AD) (w : NW) (x : SC) (sl : Nat → Option (SD × NW)) {k : Nat} (hk : k < 512) (hI : Inv k w x sl) (hP : va_P D classes (lawW ct a w x ++ zsW ct sl) H) (hD : va_D A (lawW ct a w x ++ zsW ct sl)) (hS : va_S A s.heap H locs) (hl : lv_has ls 8 (bas a b9 i)) (kk : KK p l e R s m b9 below meth c Q D ct A a i k cells slots) : W p l e R s m #[Value.ref b9] below meth c H locs cells slots Q (F0 m 965 ls []) := by
  have h32 := hI.1.n32
  by_cases q0 : w_in (xs (i + 1)).toInt64 0 (x.S 210 - 1)
  · obtain ⟨k9, e1, hk9⟩ := hI.1.in_front q0
    have hn8 := hI.1.2.2.1.2.1
    by_cases q2 : w_in (xs (i + 2)).toInt64 0 3
    · obtain ⟨v9, ev, hv⟩ := w_nat (v := xs (i + 2)) (lo := 0) (hi := 3) (by decide) (by decide) q2
      rcases (show v9 = 0 ∨ v9 = 1 ∨ v9 = 2 ∨ v9 = 3 by omega) with rfl | rfl | rfl | rfl
      · exact s_ofFront_0 l D ct st C0 i hi ⟨by omega, by omega⟩ a w x k9 w.cnt k9 (hk9) (hn8) (hI.1.2.2.1.1) (hn8) (hk9) (fun _ g1 _ => g1.2.trans (by rw [(hI.1.v_front hk9).1, i32_i64])) e1 ev e1 ev hP hD hS hl (fun out1 H1 locs1 ls1 hl1 hqL hqM hP1 hD1 hS1 => kk w ({ x with Ou := out1, th := 0 }) sl H1 locs1 ls1 _ _ ⟨hI.1.mono (Nat.le_succ k), hI.2.mono rfl rfl rfl⟩ (by omega) (by omega) hl1 hP1 hD1 hS1)
      · exact s_ofFront_1 l D ct st C0 i hi ⟨by omega, by omega⟩ a w x k9 w.cnt k9 (hk9) (hn8) (hI.1.2.2.1.1) (hn8) (hk9) (fun _ g1 _ => g1.2.trans (by rw [(hI.1.v_front hk9).2.1, i32_i64])) e1 ev e1 ev hP hD hS hl (fun out1 H1 locs1 ls1 hl1 hqL hqM hP1 hD1 hS1 => kk w ({ x with Ou := out1, th := 0 }) sl H1 locs1 ls1 _ _ ⟨hI.1.mono (Nat.le_succ k), hI.2.mono rfl rfl rfl⟩ (by omega) (by omega) hl1 hP1 hD1 hS1)
      · exact s_ofFront_2 l D ct st C0 i hi ⟨by omega, by omega⟩ a w x k9 w.cnt k9 (hk9) (hn8) (hI.1.2.2.1.1) (hn8) (hk9) (fun _ g1 _ => g1.2.trans (by rw [(hI.1.v_front hk9).2.2.1, i32_i64])) e1 ev e1 ev hP hD hS hl (fun out1 H1 locs1 ls1 hl1 hqL hqM hP1 hD1 hS1 => kk w ({ x with Ou := out1, th := 0 }) sl H1 locs1 ls1 _ _ ⟨hI.1.mono (Nat.le_succ k), hI.2.mono rfl rfl rfl⟩ (by omega) (by omega) hl1 hP1 hD1 hS1)
      · exact s_ofFront_3 l D ct st C0 i hi ⟨by omega, by omega⟩ a w x k9 w.cnt k9 (hk9) (hn8) (hI.1.2.2.1.1) (hn8) (hk9) (fun _ g1 _ => g1.2.trans (by rw [(hI.1.v_front hk9).2.2.2, i32_i64])) e1 ev e1 ev hP hD hS hl (fun out1 H1 locs1 ls1 hl1 hqL hqM hP1 hD1 hS1 => kk w ({ x with Ou := out1, th := 0 }) sl H1 locs1 ls1 _ _ ⟨hI.1.mono (Nat.le_succ k), hI.2.mono rfl rfl rfl⟩ (by omega) (by omega) hl1 hP1 hD1 hS1)
    · exact s_ofFront_b2 l D ct st C0 i hi ⟨by omega, by omega⟩ a w x k9 _ _ _ (hk9) (hn8) (q2) (q0) (q2) e1 rfl rfl rfl hP hD hS hl (fun  H1 locs1 ls1 hl1 hqL hqM hP1 hD1 hS1 => kk w ({ x with th := 2 }) sl H1 locs1 ls1 _ _ ⟨hI.1.mono (Nat.le_succ k), hI.2.mono rfl rfl rfl⟩ (by omega) (by omega) hl1 hP1 hD1 hS1)
  · exact s_ofFront_b1 l D ct st C0 i hi ⟨by omega, by omega⟩ a w x _ _ _ _ (fun z => q0 (hI.1.x_front z)) (q0) rfl rfl rfl rfl hP hD hS hl (fun  H1 locs1 ls1 hl1 hqL hqM hP1 hD1 hS1 => kk w ({ x with th := 1 }) sl H1 locs1 ls1 _ _ ⟨hI.1.mono (Nat.le_succ k), hI.2.mono rfl rfl rfl⟩ (by omega) (by omega) hl1 hP1 hD1 hS1)
set_option maxHeartbeats 2000000 in
set_option maxRecDepth 100000 in
theorem k_pipe {p : Program} {e : Env} {R : Room} {s : State} {m : MethodId} {below : List Frame} {meth : Method} {c : Code} {H : Heap} {locs : List Loc} {cells slots : Nat} {Q : State → Prop} {ls : Array Slot} {A : Nat → Prop} {a0 : Cond} (l : Launch) (D : va_G) (ct : Nat → ClassId) (st : Nat → Nat) {b9 L9 : Nat} {xs : Nat → Int32} (C0 : LX p l R s m c b9 L9 xs D ct st A a0) (i : Nat) (hi : i + 7 ≤ L9) (hroom : cells + 39 ≤ R.cells ∧ slots + 3726 ≤ R.slots) (a : AD) (w : NW) (x : SC) (sl : Nat → Option (SD × NW)) {k : Nat} (hk : k < 512) (hI : Inv k w x sl) (hP : va_P D classes (lawW ct a w x ++ zsW ct sl) H) (hD : va_D A (lawW ct a w x ++ zsW ct sl)) (hS : va_S A s.heap H locs) (hl : lv_has ls 8 (bas a b9 i)) (kk : KK p l e R s m b9 below meth c Q D ct A a i k cells slots) : W p l e R s m #[Value.ref b9] below meth c H locs cells slots Q (F0 m 1033 ls []) := by
  have h32 := hI.1.n32
  by_cases q : w_in (xs (i + 1)).toInt64 1 20 ∧ w_in (xs (i + 2)).toInt64 1 50 ∧ w_in (xs (i + 3)).toInt64 0 20 ∧ w_in (xs (i + 4)).toInt64 1 50 ∧ w_in (xs (i + 5)).toInt64 0 2000 ∧ w_in (xs (i + 6)).toInt64 (-100) 100
  · obtain ⟨q1, q2, q3, q4, q5, q6⟩ := q
    obtain ⟨re9, e1, h1⟩ := w_nat (v := xs (i + 1)) (lo := 1) (hi := 20) (by decide) (by decide) q1
    obtain ⟨i9, e2, h2⟩ := w_nat (v := xs (i + 2)) (lo := 1) (hi := 50) (by decide) (by decide) q2
    obtain ⟨r9, e3, h3⟩ := w_nat (v := xs (i + 3)) (lo := 0) (hi := 20) (by decide) (by decide) q3
    obtain ⟨z9, e4, h4⟩ := w_nat (v := xs (i + 4)) (lo := 1) (hi := 50) (by decide) (by decide) q4
    obtain ⟨h9, e5, h5⟩ := w_nat (v := xs (i + 5)) (lo := 0) (hi := 2000) (by decide) (by decide) q5
    exact s_pipe_ok l D ct st C0 i hi ⟨by omega, by omega⟩ a w x re9 i9 r9 z9 h9 (xs (i + 6)) re9 i9 r9 z9 h9 (xs (i + 6)) (h1) (h2) (h3.2) (h4) (h5.2) (q6) (h1) (h2) (h3.2) (h4) (h5.2) (q6) e1 e2 e3 e4 e5 rfl e1 e2 e3 e4 e5 rfl hP hD hS hl (fun hd1 fl1 cv1 gt1 s1M H1 locs1 ls1 hl1 hqL hqM hP1 hD1 hS1 => kk ({ w with nd := re9 + 1, im := i9, fr := r9, lo := z9, op := 100, rs := h9, hd := hd1, fl := fl1, cv := cv1, gt := gt1 }) ({ x with th := 0, S := s1M }) sl H1 locs1 ls1 _ _ ⟨hI.1.newpipe h1 h2 h3.2 h4 h5.2 q6 hqL hqM, hI.2.mono rfl rfl rfl⟩ (by omega) (by omega) hl1 hP1 hD1 hS1)
  · exact s_pipe_bad l D ct st C0 i hi ⟨by omega, by omega⟩ a w x _ _ _ _ _ _ _ _ _ _ _ _ (q) (q) rfl rfl rfl rfl rfl rfl rfl rfl rfl rfl rfl rfl hP hD hS hl (fun  H1 locs1 ls1 hl1 hqL hqM hP1 hD1 hS1 => kk w ({ x with th := 1 }) sl H1 locs1 ls1 _ _ ⟨hI.1.mono (Nat.le_succ k), hI.2.mono rfl rfl rfl⟩ (by omega) (by omega) hl1 hP1 hD1 hS1)
set_option maxHeartbeats 2000000 in
set_option maxRecDepth 100000 in
theorem k_valve {p : Program} {e : Env} {R : Room} {s : State} {m : MethodId} {below : List Frame} {meth : Method} {c : Code} {H : Heap} {locs : List Loc} {cells slots : Nat} {Q : State → Prop} {ls : Array Slot} {A : Nat → Prop} {a0 : Cond} (l : Launch) (D : va_G) (ct : Nat → ClassId) (st : Nat → Nat) {b9 L9 : Nat} {xs : Nat → Int32} (C0 : LX p l R s m c b9 L9 xs D ct st A a0) (i : Nat) (hi : i + 7 ≤ L9) (hroom : cells + 39 ≤ R.cells ∧ slots + 3726 ≤ R.slots) (a : AD) (w : NW) (x : SC) (sl : Nat → Option (SD × NW)) {k : Nat} (hk : k < 512) (hI : Inv k w x sl) (hP : va_P D classes (lawW ct a w x ++ zsW ct sl) H) (hD : va_D A (lawW ct a w x ++ zsW ct sl)) (hS : va_S A s.heap H locs) (hl : lv_has ls 8 (bas a b9 i)) (kk : KK p l e R s m b9 below meth c Q D ct A a i k cells slots) : W p l e R s m #[Value.ref b9] below meth c H locs cells slots Q (F0 m 1131 ls []) := by
  have h32 := hI.1.n32
  by_cases q1 : w_in (xs (i + 1)).toInt64 0 100
  · by_cases hnd : w.nd = 0
    · exact s_valve_b2 l D ct st C0 i hi ⟨by omega, by omega⟩ a w x _ _ (q1) (hnd) (q1) (by rw [hI.1.nopipe hnd]; decide) rfl rfl hP hD hS hl (fun  H1 locs1 ls1 hl1 hqL hqM hP1 hD1 hS1 => kk w ({ x with th := 2 }) sl H1 locs1 ls1 _ _ ⟨hI.1.mono (Nat.le_succ k), hI.2.mono rfl rfl rfl⟩ (by omega) (by omega) hl1 hP1 hD1 hS1)
    · obtain ⟨la, hn, p1, p2, p3, p4, hp⟩ := hI.1.pipe hnd
      obtain ⟨o9, e1, h1⟩ := w_nat (v := xs (i + 1)) (lo := 0) (hi := 100) (by decide) (by decide) q1
      exact s_valve_ok l D ct st C0 i hi ⟨by omega, by omega⟩ a w x o9 o9 w.op (h1.2) (by omega) (h1.2) (p1) (hp.1.2.2.2.2.2.2.1.1) (fun _ _ g1 _ => g1.2) e1 e1 hP hD hS hl (fun out1 s1M H1 locs1 ls1 hl1 hqL hqM hP1 hD1 hS1 => kk ({ w with op := o9 }) ({ x with Ou := out1, th := 0, S := s1M }) sl H1 locs1 ls1 _ _ ⟨hI.1.valve h1.2 hn hp hqM, hI.2.mono rfl rfl rfl⟩ (by omega) (by omega) hl1 hP1 hD1 hS1)
  · exact s_valve_b1 l D ct st C0 i hi ⟨by omega, by omega⟩ a w x _ _ (q1) (q1) rfl rfl hP hD hS hl (fun  H1 locs1 ls1 hl1 hqL hqM hP1 hD1 hS1 => kk w ({ x with th := 1 }) sl H1 locs1 ls1 _ _ ⟨hI.1.mono (Nat.le_succ k), hI.2.mono rfl rfl rfl⟩ (by omega) (by omega) hl1 hP1 hD1 hS1)
set_option maxHeartbeats 2000000 in
set_option maxRecDepth 100000 in
theorem k_reservoir {p : Program} {e : Env} {R : Room} {s : State} {m : MethodId} {below : List Frame} {meth : Method} {c : Code} {H : Heap} {locs : List Loc} {cells slots : Nat} {Q : State → Prop} {ls : Array Slot} {A : Nat → Prop} {a0 : Cond} (l : Launch) (D : va_G) (ct : Nat → ClassId) (st : Nat → Nat) {b9 L9 : Nat} {xs : Nat → Int32} (C0 : LX p l R s m c b9 L9 xs D ct st A a0) (i : Nat) (hi : i + 7 ≤ L9) (hroom : cells + 39 ≤ R.cells ∧ slots + 3726 ≤ R.slots) (a : AD) (w : NW) (x : SC) (sl : Nat → Option (SD × NW)) {k : Nat} (hk : k < 512) (hI : Inv k w x sl) (hP : va_P D classes (lawW ct a w x ++ zsW ct sl) H) (hD : va_D A (lawW ct a w x ++ zsW ct sl)) (hS : va_S A s.heap H locs) (hl : lv_has ls 8 (bas a b9 i)) (kk : KK p l e R s m b9 below meth c Q D ct A a i k cells slots) : W p l e R s m #[Value.ref b9] below meth c H locs cells slots Q (F0 m 1187 ls []) := by
  have h32 := hI.1.n32
  by_cases q1 : w_in (xs (i + 1)).toInt64 0 2000
  · by_cases hnd : w.nd = 0
    · exact s_reservoir_b2 l D ct st C0 i hi ⟨by omega, by omega⟩ a w x _ _ (q1) (hnd) (q1) (by rw [hI.1.nopipe hnd]; decide) rfl rfl hP hD hS hl (fun  H1 locs1 ls1 hl1 hqL hqM hP1 hD1 hS1 => kk w ({ x with th := 2 }) sl H1 locs1 ls1 _ _ ⟨hI.1.mono (Nat.le_succ k), hI.2.mono rfl rfl rfl⟩ (by omega) (by omega) hl1 hP1 hD1 hS1)
    · obtain ⟨la, hn, p1, p2, p3, p4, hp⟩ := hI.1.pipe hnd
      obtain ⟨o9, e1, h1⟩ := w_nat (v := xs (i + 1)) (lo := 0) (hi := 2000) (by decide) (by decide) q1
      exact s_reservoir_ok l D ct st C0 i hi ⟨by omega, by omega⟩ a w x o9 o9 w.rs (h1.2) (by omega) (h1.2) (p1) (hp.1.2.2.2.2.2.1.1) (fun _ _ g1 _ => g1.2) e1 e1 hP hD hS hl (fun out1 s1M H1 locs1 ls1 hl1 hqL hqM hP1 hD1 hS1 => kk ({ w with rs := o9 }) ({ x with Ou := out1, th := 0, S := s1M }) sl H1 locs1 ls1 _ _ ⟨hI.1.reservoir h1.2 hn hp hqM, hI.2.mono rfl rfl rfl⟩ (by omega) (by omega) hl1 hP1 hD1 hS1)
  · exact s_reservoir_b1 l D ct st C0 i hi ⟨by omega, by omega⟩ a w x _ _ (q1) (q1) rfl rfl hP hD hS hl (fun  H1 locs1 ls1 hl1 hqL hqM hP1 hD1 hS1 => kk w ({ x with th := 1 }) sl H1 locs1 ls1 _ _ ⟨hI.1.mono (Nat.le_succ k), hI.2.mono rfl rfl rfl⟩ (by omega) (by omega) hl1 hP1 hD1 hS1)
set_option maxHeartbeats 2000000 in
set_option maxRecDepth 100000 in
theorem k_node {p : Program} {e : Env} {R : Room} {s : State} {m : MethodId} {below : List Frame} {meth : Method} {c : Code} {H : Heap} {locs : List Loc} {cells slots : Nat} {Q : State → Prop} {ls : Array Slot} {A : Nat → Prop} {a0 : Cond} (l : Launch) (D : va_G) (ct : Nat → ClassId) (st : Nat → Nat) {b9 L9 : Nat} {xs : Nat → Int32} (C0 : LX p l R s m c b9 L9 xs D ct st A a0) (i : Nat) (hi : i + 7 ≤ L9) (hroom : cells + 39 ≤ R.cells ∧ slots + 3726 ≤ R.slots) (a : AD) (w : NW) (x : SC) (sl : Nat → Option (SD × NW)) {k : Nat} (hk : k < 512) (hI : Inv k w x sl) (hP : va_P D classes (lawW ct a w x ++ zsW ct sl) H) (hD : va_D A (lawW ct a w x ++ zsW ct sl)) (hS : va_S A s.heap H locs) (hl : lv_has ls 8 (bas a b9 i)) (kk : KK p l e R s m b9 below meth c Q D ct A a i k cells slots) : W p l e R s m #[Value.ref b9] below meth c H locs cells slots Q (F0 m 1299 ls []) := by
  have h32 := hI.1.n32
  by_cases q : w.nd = 0 ∨ ¬ w_in (xs (i + 1)).toInt64 0 (x.S 244)
  · exact s_node_b1 l D ct st C0 i hi ⟨by omega, by omega⟩ a w x _ _ _ _ (hI.1.x_node q) (hI.1.m_node q) rfl rfl rfl rfl hP hD hS hl (fun  H1 locs1 ls1 hl1 hqL hqM hP1 hD1 hS1 => kk w ({ x with th := 1 }) sl H1 locs1 ls1 _ _ ⟨hI.1.mono (Nat.le_succ k), hI.2.mono rfl rfl rfl⟩ (by omega) (by omega) hl1 hP1 hD1 hS1)
  · obtain ⟨hnd, q0⟩ := not_or.mp q
    have q0 := Classical.not_not.mp q0
    obtain ⟨la, hn, p1, p2, p3, p4, hp⟩ := hI.1.pipe hnd
    rw [p2] at q0
    obtain ⟨k9, e1, hk0⟩ := w_nat (v := xs (i + 1)) (lo := 0) (hi := la) (by decide) (by omega) q0
    have hk9 : k9 < w.nd := by omega
    have hn21 : w.nd ≤ 21 := by omega
    by_cases q2 : w_in (xs (i + 2)).toInt64 0 3
    · obtain ⟨v9, ev, hv⟩ := w_nat (v := xs (i + 2)) (lo := 0) (hi := 3) (by decide) (by decide) q2
      rcases (show v9 = 0 ∨ v9 = 1 ∨ v9 = 2 ∨ v9 = 3 by omega) with rfl | rfl | rfl | rfl
      · exact s_node_0 l D ct st C0 i hi ⟨by omega, by omega⟩ a w x k9 la k9 (hk9) (hn21) (p1) (p2) (⟨by omega, p4⟩) (fun _ g1 _ => g1.2.trans (by rw [(hI.1.v_node hk9).1])) e1 ev e1 ev hP hD hS hl (fun out1 H1 locs1 ls1 hl1 hqL hqM hP1 hD1 hS1 => kk w ({ x with Ou := out1, th := 0 }) sl H1 locs1 ls1 _ _ ⟨hI.1.mono (Nat.le_succ k), hI.2.mono rfl rfl rfl⟩ (by omega) (by omega) hl1 hP1 hD1 hS1)
      · exact s_node_1 l D ct st C0 i hi ⟨by omega, by omega⟩ a w x k9 la k9 (hk9) (hn21) (p1) (p2) (⟨by omega, p4⟩) (fun _ g1 _ => g1.2.trans (by rw [(hI.1.v_node hk9).2.1])) e1 ev e1 ev hP hD hS hl (fun out1 H1 locs1 ls1 hl1 hqL hqM hP1 hD1 hS1 => kk w ({ x with Ou := out1, th := 0 }) sl H1 locs1 ls1 _ _ ⟨hI.1.mono (Nat.le_succ k), hI.2.mono rfl rfl rfl⟩ (by omega) (by omega) hl1 hP1 hD1 hS1)
      · exact s_node_2 l D ct st C0 i hi ⟨by omega, by omega⟩ a w x k9 la k9 (hk9) (hn21) (p1) (p2) (⟨by omega, p4⟩) (fun _ g1 _ => g1.2.trans (by rw [(hI.1.v_node hk9).2.2.1])) e1 ev e1 ev hP hD hS hl (fun out1 H1 locs1 ls1 hl1 hqL hqM hP1 hD1 hS1 => kk w ({ x with Ou := out1, th := 0 }) sl H1 locs1 ls1 _ _ ⟨hI.1.mono (Nat.le_succ k), hI.2.mono rfl rfl rfl⟩ (by omega) (by omega) hl1 hP1 hD1 hS1)
      · exact s_node_3 l D ct st C0 i hi ⟨by omega, by omega⟩ a w x k9 la k9 (hk9) (hn21) (p1) (p2) (⟨by omega, p4⟩) (fun _ g1 _ => g1.2.trans (by rw [(hI.1.v_node hk9).2.2.2])) e1 ev e1 ev hP hD hS hl (fun out1 H1 locs1 ls1 hl1 hqL hqM hP1 hD1 hS1 => kk w ({ x with Ou := out1, th := 0 }) sl H1 locs1 ls1 _ _ ⟨hI.1.mono (Nat.le_succ k), hI.2.mono rfl rfl rfl⟩ (by omega) (by omega) hl1 hP1 hD1 hS1)
    · exact s_node_b2 l D ct st C0 i hi ⟨by omega, by omega⟩ a w x k9 _ _ _ (hk9) (hn21) (q2) (by rw [p1]; decide) (by rw [p2]; exact q0) (q2) e1 rfl rfl rfl hP hD hS hl (fun  H1 locs1 ls1 hl1 hqL hqM hP1 hD1 hS1 => kk w ({ x with th := 2 }) sl H1 locs1 ls1 _ _ ⟨hI.1.mono (Nat.le_succ k), hI.2.mono rfl rfl rfl⟩ (by omega) (by omega) hl1 hP1 hD1 hS1)
