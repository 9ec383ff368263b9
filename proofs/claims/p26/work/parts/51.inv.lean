/-! the law's invariant: what the class holds beside the reference's array -/
abbrev TB : Type := Nat × Int32 × Int32 × Int32 × Nat × Nat × Nat × Nat × (Nat → Int64) × (Nat → Int64) × (Nat → Int64) × (Nat → Int64) × (Nat → Int64) × (Nat → Int64) × (Nat → Int64) × (Nat → Int32)
abbrev TB.g (r9 : TB) : Nat := r9.1
abbrev TB.ig (r9 : TB) : Int32 := r9.2.1
abbrev TB.pa (r9 : TB) : Int32 := r9.2.2.1
abbrev TB.he (r9 : TB) : Int32 := r9.2.2.2.1
abbrev TB.n (r9 : TB) : Nat := r9.2.2.2.2.1
abbrev TB.lf (r9 : TB) : Nat := r9.2.2.2.2.2.1
abbrev TB.rg (r9 : TB) : Nat := r9.2.2.2.2.2.2.1
abbrev TB.ns (r9 : TB) : Nat := r9.2.2.2.2.2.2.2.1
abbrev TB.M (r9 : TB) : Nat → Int64 := r9.2.2.2.2.2.2.2.2.1
abbrev TB.P (r9 : TB) : Nat → Int64 := r9.2.2.2.2.2.2.2.2.2.1
abbrev TB.E (r9 : TB) : Nat → Int64 := r9.2.2.2.2.2.2.2.2.2.2.1
abbrev TB.F (r9 : TB) : Nat → Int64 := r9.2.2.2.2.2.2.2.2.2.2.2.1
abbrev TB.td (r9 : TB) : Nat → Int64 := r9.2.2.2.2.2.2.2.2.2.2.2.2.1
abbrev TB.cm (r9 : TB) : Nat → Int64 := r9.2.2.2.2.2.2.2.2.2.2.2.2.2.1
abbrev TB.gr (r9 : TB) : Nat → Int64 := r9.2.2.2.2.2.2.2.2.2.2.2.2.2.2.1
abbrev TB.gs (r9 : TB) : Nat → Int32 := r9.2.2.2.2.2.2.2.2.2.2.2.2.2.2.2
abbrev TB.mk (g9 : Nat) (ig9 : Int32) (pa9 : Int32) (he9 : Int32) (n9 : Nat) (lf9 : Nat) (rg9 : Nat) (ns9 : Nat) (M9 : Nat → Int64) (P9 : Nat → Int64) (E9 : Nat → Int64) (F9 : Nat → Int64) (td9 : Nat → Int64) (cm9 : Nat → Int64) (gr9 : Nat → Int64) (gs9 : Nat → Int32) : TB := (g9, ig9, pa9, he9, n9, lf9, rg9, ns9, M9, P9, E9, F9, td9, cm9, gr9, gs9)
abbrev NW : Type := TB × Nat × Nat × (Nat → Int32) × TB × Nat × (Nat → Int32) × (Nat → Int32) × (Nat → Int32) × (Nat → Int32) × (Nat → Int32) × Nat × Nat × Nat × Nat × Nat × Nat × (Nat → Int64) × (Nat → Int64) × (Nat → Int64) × (Nat → Int64) × (Nat → Int64) × (Nat → Int64) × (Nat → Int64)
abbrev NW.T (r9 : NW) : TB := r9.1
abbrev NW.cS (r9 : NW) : Nat := r9.2.1
abbrev NW.gS (r9 : NW) : Nat := r9.2.2.1
abbrev NW.no (r9 : NW) : Nat → Int32 := r9.2.2.2.1
abbrev NW.A (r9 : NW) : TB := r9.2.2.2.2.1
abbrev NW.cnt (r9 : NW) : Nat := r9.2.2.2.2.2.1
abbrev NW.ck (r9 : NW) : Nat → Int32 := r9.2.2.2.2.2.2.1
abbrev NW.cp (r9 : NW) : Nat → Int32 := r9.2.2.2.2.2.2.2.1
abbrev NW.ca (r9 : NW) : Nat → Int32 := r9.2.2.2.2.2.2.2.2.1
abbrev NW.cs (r9 : NW) : Nat → Int32 := r9.2.2.2.2.2.2.2.2.2.1
abbrev NW.cg (r9 : NW) : Nat → Int32 := r9.2.2.2.2.2.2.2.2.2.2.1
abbrev NW.nd (r9 : NW) : Nat := r9.2.2.2.2.2.2.2.2.2.2.2.1
abbrev NW.im (r9 : NW) : Nat := r9.2.2.2.2.2.2.2.2.2.2.2.2.1
abbrev NW.fr (r9 : NW) : Nat := r9.2.2.2.2.2.2.2.2.2.2.2.2.2.1
abbrev NW.lo (r9 : NW) : Nat := r9.2.2.2.2.2.2.2.2.2.2.2.2.2.2.1
abbrev NW.op (r9 : NW) : Nat := r9.2.2.2.2.2.2.2.2.2.2.2.2.2.2.2.1
abbrev NW.rs (r9 : NW) : Nat := r9.2.2.2.2.2.2.2.2.2.2.2.2.2.2.2.2.1
abbrev NW.hd (r9 : NW) : Nat → Int64 := r9.2.2.2.2.2.2.2.2.2.2.2.2.2.2.2.2.2.1
abbrev NW.fl (r9 : NW) : Nat → Int64 := r9.2.2.2.2.2.2.2.2.2.2.2.2.2.2.2.2.2.2.1
abbrev NW.cv (r9 : NW) : Nat → Int64 := r9.2.2.2.2.2.2.2.2.2.2.2.2.2.2.2.2.2.2.2.1
abbrev NW.gt (r9 : NW) : Nat → Int64 := r9.2.2.2.2.2.2.2.2.2.2.2.2.2.2.2.2.2.2.2.2.1
abbrev NW.nh (r9 : NW) : Nat → Int64 := r9.2.2.2.2.2.2.2.2.2.2.2.2.2.2.2.2.2.2.2.2.2.1
abbrev NW.nf (r9 : NW) : Nat → Int64 := r9.2.2.2.2.2.2.2.2.2.2.2.2.2.2.2.2.2.2.2.2.2.2.1
abbrev NW.nc (r9 : NW) : Nat → Int64 := r9.2.2.2.2.2.2.2.2.2.2.2.2.2.2.2.2.2.2.2.2.2.2.2
abbrev NW.mk (T9 : TB) (cS9 : Nat) (gS9 : Nat) (no9 : Nat → Int32) (A9 : TB) (cnt9 : Nat) (ck9 : Nat → Int32) (cp9 : Nat → Int32) (ca9 : Nat → Int32) (cs9 : Nat → Int32) (cg9 : Nat → Int32) (nd9 : Nat) (im9 : Nat) (fr9 : Nat) (lo9 : Nat) (op9 : Nat) (rs9 : Nat) (hd9 : Nat → Int64) (fl9 : Nat → Int64) (cv9 : Nat → Int64) (gt9 : Nat → Int64) (nh9 : Nat → Int64) (nf9 : Nat → Int64) (nc9 : Nat → Int64) : NW := (T9, cS9, gS9, no9, A9, cnt9, ck9, cp9, ca9, cs9, cg9, nd9, im9, fr9, lo9, op9, rs9, hd9, fl9, cv9, gt9, nh9, nf9, nc9)
def RelT (S : Nat → Int64) (T : TB) : Prop := TRa S T.g T.ig T.pa T.he T.n T.lf T.rg T.M T.P T.E T.F ∧ TRb S T.n T.ns T.cm T.gr T.gs ∧ (∀ j, j < 4 → T.td j = S (142 + j)) ∧ T.ns ≤ 300
def RelA (S : Nat → Int64) (w : NW) (k : Nat) : Prop := SI w.T.n w.T.lf w.T.rg w.cS w.gS w.no S w.A.g w.A.ig w.A.pa w.A.he w.A.M w.A.P w.A.E w.A.F ∧ (w.A.n = w.T.n ∧ w.A.lf = w.T.lf ∧ w.A.rg = w.T.rg) ∧ w.cS ≤ k
abbrev NW.row (w : NW) : RF := fR w.ck w.cp w.cs w.cg w.ca
def RelR (S : Nat → Int64) (w : NW) : Prop := S 210 = lN w.cnt ∧ w.cnt ≤ 8 ∧ FB w.cnt w.row ∧ ∀ Bf, Ag4 w.cnt w.row (fS S Bf)
def RelP (S : Nat → Int64) (w : NW) : Prop := (w.nd = 0 ∧ S 243 = 0) ∨ ∃ la, w.nd = la + 1 ∧ TRp S la w.im w.fr w.lo w.op w.rs w.hd w.fl w.cv w.gt
def Rel (S : Nat → Int64) (w : NW) (k : Nat) : Prop := RelT S w.T ∧ RelA S w k ∧ RelR S w ∧ RelP S w
/- numbers -/
theorem gr_small {v : Int64} (h : v.toInt ≤ 2147483647) : w_gr v = v.toInt32 := by
  unfold w_gr
  rw [if_neg]
  intro z
  have := Int64.lt_iff_toInt_lt.mp z
  have e : (2147483647 : Int64).toInt = 2147483647 := by decide
  omega
theorem i32_i64 (x : Int32) : x.toInt64.toInt32 = x := by simp
theorem eq_i64 {x : Int32} {y : Int64} (h : x.toInt = y.toInt) : y = x.toInt64 := Int64.toInt_inj.mp (by rw [Int32.toInt_toInt64]; exact h.symm)
theorem w_nat {v : Int32} {lo hi : Nat} (hl9 : lo < 2 ^ 31) (hh : hi < 2 ^ 31) (h : w_in v.toInt64 (lN lo) (lN hi)) : ∃ a, v = nI a ∧ lo ≤ a ∧ a ≤ hi := by
  obtain ⟨h1, h2⟩ := h
  have hl := Int64.le_iff_toInt_le.mp h1
  have h3 := Int64.le_iff_toInt_le.mp h2
  rw [Int32.toInt_toInt64] at hl h3
  rw [lN_toInt hh] at h3
  rw [lN_toInt hl9] at hl
  refine ⟨v.toInt.toNat, ?_, by omega, by omega⟩
  apply Int32.toInt_inj.mp
  rw [nI_toInt (by omega)]
  omega
section RC
variable {S S1 : Nat → Int64} {w : NW} {T : TB} {k k1 : Nat}
theorem RelT.cong (h : RelT S T) (e : ∀ j, j < 210 → S1 j = S j) : RelT S1 T := by
  obtain ⟨h1, h2, h3, h4⟩ := h
  exact ⟨h1.cong e, h2.cong h1.1.2.2.1.2 e, fun j hj => (h3 j hj).trans (e _ (by omega)).symm, h4⟩
theorem RelA.cong (h : RelA S w k) (e : ∀ j, j < 210 → S1 j = S j) (hk : k ≤ k1) : RelA S1 w k1 := ⟨h.1.cong e (fun _ _ => rfl), h.2.1, by have := h.2.2; omega⟩
theorem RelR.cong (h : RelR S w) (e : ∀ j, 210 ≤ j → j < 243 → S1 j = S j) : RelR S1 w := by
  obtain ⟨h1, h2, h3, h4⟩ := h
  refine ⟨(e 210 (by omega) (by omega)).trans h1, h2, h3, fun Bf a j ha hj => (h4 Bf a j ha hj).trans ?_⟩
  unfold fS
  rcases (show a = 0 ∨ a = 1 ∨ a = 2 ∨ a = 3 by omega) with rfl | rfl | rfl | rfl
  · exact congrArg Int64.toInt (e _ (by omega) (by omega)).symm
  · exact congrArg Int64.toInt (e _ (by omega) (by omega)).symm
  · exact congrArg Int64.toInt (e _ (by omega) (by omega)).symm
  · exact congrArg Int64.toInt (e _ (by omega) (by omega)).symm
theorem TRp.cong {la im fr lo op rs : Nat} {hd fl cv gt : Nat → Int64} (h : TRp S la im fr lo op rs hd fl cv gt) (e : ∀ j, 243 ≤ j → j < 334 → S1 j = S j) : TRp S1 la im fr lo op rs hd fl cv gt := by
  obtain ⟨⟨h1, ⟨h2, h21, h22⟩, ⟨h3, h31⟩, ⟨h4, h41⟩, ⟨h5, h51⟩, ⟨h6, h61⟩, ⟨h7, h71⟩, h8⟩, hq⟩ := h
  refine ⟨⟨(e _ (by omega) (by omega)).trans h1, ⟨(e _ (by omega) (by omega)).trans h2, h21, h22⟩, ⟨(e _ (by omega) (by omega)).trans h3, h31⟩, ⟨(e _ (by omega) (by omega)).trans h4, h41⟩, ⟨(e _ (by omega) (by omega)).trans h5, h51⟩, ⟨(e _ (by omega) (by omega)).trans h6, h61⟩, ⟨(e _ (by omega) (by omega)).trans h7, h71⟩, fun k hk => ?_⟩, fun k hk => ?_⟩
  · rw [e _ (by omega) (by omega), e _ (by omega) (by omega)]
    exact h8 k hk
  · obtain ⟨q1, q2, q3, q4⟩ := hq k hk
    exact ⟨q1.trans (e _ (by omega) (by omega)).symm, q2.trans (e _ (by omega) (by omega)).symm, q3.trans (e _ (by omega) (by omega)).symm, q4.trans (e _ (by omega) (by omega)).symm⟩
theorem RelP.cong (h : RelP S w) (e : ∀ j, 243 ≤ j → j < 334 → S1 j = S j) : RelP S1 w := by
  rcases h with ⟨h1, h2⟩ | ⟨la, h1, h2⟩
  · exact Or.inl ⟨h1, (e _ (by omega) (by omega)).trans h2⟩
  · exact Or.inr ⟨la, h1, h2.cong e⟩
theorem Rel.cong (h : Rel S w k) (e : ∀ j, j < 334 → S1 j = S j) (hk : k ≤ k1) : Rel S1 w k1 := ⟨h.1.cong fun j hj => e j (by omega), h.2.1.cong (fun j hj => e j (by omega)) hk, h.2.2.1.cong fun j _ hj => e j (by omega), h.2.2.2.cong fun j _ hj => e j hj⟩
theorem Rel.mono (h : Rel S w k) (hk : k ≤ k1) : Rel S w k1 := h.cong (fun _ _ => rfl) hk
/- values -/
theorem Rel.n32 (h : Rel S w k) : 2 ≤ w.T.n ∧ w.T.n ≤ 32 := h.1.1.1.2.2.1
theorem Rel.S4 (h : Rel S w k) : S 4 = lN w.T.n := h.1.1.1.2.2.2.1
theorem Rel.S0 (h : Rel S w k) : S 0 = lN w.T.g ∧ w.T.g < 3 := ⟨h.1.1.1.2.1, h.1.1.1.1⟩
theorem Rel.okc (h : Rel S w k) : ∀ c, c < w.T.n → OkC w.T.M w.T.P w.T.E w.T.F c := h.1.1.okc
theorem Rel.S7 (h : Rel S w k) : S 7 = lN w.T.ns := h.1.2.1.1
theorem Rel.v_many (h : Rel S w k) : (nI w.T.n : Int32) = (S 4).toInt32 := by rw [h.S4]; exact (lN_i _).symm
theorem Rel.v_steps (h : Rel S w k) : (nI w.T.ns : Int32) = (S 7).toInt32 := by rw [h.S7]; exact (lN_i _).symm
theorem Rel.v_fronts (h : Rel S w k) : (nI w.cnt : Int32) = (S 210).toInt32 := by rw [h.2.2.1.1]; exact (lN_i _).symm
theorem Rel.v_tube (h : Rel S w k) {c : Nat} (hc : c < w.T.n) : w_gr (w.T.M c) = (S (8 + c)).toInt32 ∧ w_gr (w.T.P c) = (S (40 + c)).toInt32 ∧ w_gr (w.T.E c) = (S (72 + c)).toInt32 ∧ w_gr (w.T.F c) = (S (104 + c)).toInt32 := by
  obtain ⟨⟨-, h1⟩, ⟨-, h2⟩, ⟨-, h3⟩, -, -, h4⟩ := h.okc c hc
  obtain ⟨q0, q1, q2, q3⟩ := h.1.1.2.2 c hc
  refine ⟨?_, ?_, ?_, ?_⟩
  · rw [gr_small (by omega), q0]
  · rw [gr_small (by omega), q1]
  · rw [gr_small (by omega), q2]
  · rw [gr_small (by omega), q3]
theorem Rel.v_pr (h : Rel S w k) {c : Nat} (hc : c < w.T.n) : w_pr w.T.g w.T.M w.T.P w.T.E c = w_pr w.T.g (sM S) (sP S) (sE S) c ∧ w_sp w.T.M w.T.P c = w_sp (sM S) (sP S) c ∧ w_so w.T.g w.T.M w.T.P w.T.E c = w_so w.T.g (sM S) (sP S) (sE S) c ∧ w.T.M c = S (8 + c) :=
  ⟨cq_pr h.1.1.2.2 hc, cq_sp h.1.1.2.2 hc, cq_so h.1.1.2.2 hc, (h.1.1.2.2 c hc).1⟩
theorem Rel.v_probe (h : Rel S w k) {c : Nat} (hc : c < w.T.n) : w.T.gr c = S (146 + c) ∧ (w.T.gs c).toInt64 = (w_gr (S (178 + c))).toInt64 := by
  obtain ⟨q0, q1⟩ := h.1.2.1.2.2 c hc
  refine ⟨q0, ?_⟩
  rw [← q1, gr_small, i32_i64]
  rw [Int32.toInt_toInt64]
  have := Int32.toInt_lt (w.T.gs c)
  omega
theorem Rel.v_came (h : Rel S w k) {j : Nat} (hj : j < 6) : w.T.cm j = S (136 + j) := h.1.2.1.2.1 j hj
theorem Rel.v_kept (h : Rel S w k) : w_sum w.T.M w.T.n = w_sum (fun c9 => S (8 + c9)) w.T.n ∧ w_sum w.T.P w.T.n = w_sum (fun c9 => S (40 + c9)) w.T.n ∧ w_sum w.T.E w.T.n = w_sum (fun c9 => S (72 + c9)) w.T.n ∧ w_sum w.T.F w.T.n = w_sum (fun c9 => S (104 + c9)) w.T.n :=
  ⟨w_sum_cong fun j hj => (h.1.1.2.2 j hj).1, w_sum_cong fun j hj => (h.1.1.2.2 j hj).2.1, w_sum_cong fun j hj => (h.1.1.2.2 j hj).2.2.1, w_sum_cong fun j hj => (h.1.1.2.2 j hj).2.2.2⟩
theorem Rel.v_front (h : Rel S w k) {c : Nat} (hc : c < w.cnt) : S (211 + c) = (w.ck c).toInt64 ∧ S (219 + c) = (w.cp c).toInt64 ∧ S (227 + c) = (w.cs c).toInt64 ∧ S (235 + c) = (w.cg c).toInt64 := by
  have h4 := h.2.2.1.2.2.2 (fun _ => 0)
  exact ⟨eq_i64 (h4 0 c (by omega) hc), eq_i64 (h4 1 c (by omega) hc), eq_i64 (h4 2 c (by omega) hc), eq_i64 (h4 3 c (by omega) hc)⟩
theorem Rel.v_node (h : Rel S w k) {c : Nat} (hc : c < w.nd) : w.hd c = S (250 + c) ∧ w.fl c = S (271 + c) ∧ w.cv c = S (292 + c) ∧ w.gt c = S (313 + c) := by
  rcases h.2.2.2 with ⟨h1, -⟩ | ⟨la, h1, h2⟩
  · omega
  · exact h2.2 c (by omega)
theorem Rel.pipe (h : Rel S w k) (hn : ¬ w.nd = 0) : ∃ la, w.nd = la + 1 ∧ S 243 = 1 ∧ S 244 = lN la ∧ 1 ≤ la ∧ la ≤ 20 ∧ TRp S la w.im w.fr w.lo w.op w.rs w.hd w.fl w.cv w.gt := by
  rcases h.2.2.2 with ⟨h1, -⟩ | ⟨la, h1, h2⟩
  · exact absurd h1 hn
  · exact ⟨la, h1, h2.1.1, h2.1.2.1.1, h2.1.2.1.2.1, h2.1.2.1.2.2, h2⟩
theorem Rel.nopipe (h : Rel S w k) (hn : w.nd = 0) : S 243 = 0 := by
  rcases h.2.2.2 with ⟨-, h1⟩ | ⟨la, h1, h2⟩
  · exact h1
  · omega
end RC

