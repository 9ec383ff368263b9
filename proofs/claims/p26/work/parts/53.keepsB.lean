/-! cells told anew, shapes, what anew does, copies -/
section RO
variable {S s1 : Nat → Int64} {w : NW} {k : Nat}
theorem Rel.cell {c ma en fu : Nat} {po : Int32} {M1 P1 E1 F1 td1 : Nat → Int64} {no1 : Nat → Int32} (h : Rel S w k) (hk : k < 512) (hc : c < w.T.n) (hma : 1 ≤ ma ∧ ma ≤ 1000000) (hpo : w_in po.toInt64 (-10000000) 10000000) (hen : en ≤ 1000000000) (hfu : fu ≤ ma) (hwi : 0 ≤ (w_within (lN ma) po.toInt64 (lN en)).toInt)
    (hq : (M1 = vp_updL w.T.M c (nI ma).toInt64 ∧ P1 = vp_updL w.T.P c po.toInt64 ∧ E1 = vp_updL w.T.E c (nI en).toInt64 ∧ F1 = vp_updL w.T.F c (nI fu).toInt64 ∧ td1 0 = w.T.td 0 + ((nI ma).toInt64 - w.T.M c) ∧ td1 1 = w.T.td 1 + (po.toInt64 - w.T.P c) ∧ td1 2 = w.T.td 2 + ((nI en).toInt64 - w.T.E c) ∧ td1 3 = w.T.td 3 + ((nI fu).toInt64 - w.T.F c)) ∧ (no1 (w.cS * 6) = 0 ∧ no1 (w.cS * 6 + 1) = (nI c) ∧ no1 (w.cS * 6 + 2) = (nI ma) ∧ no1 (w.cS * 6 + 3) = po ∧ no1 (w.cS * 6 + 4) = (nI en) ∧ no1 (w.cS * 6 + 5) = (nI fu)) ∧ ∀ j, j < w.cS * 6 → no1 j = w.no j)
    (hm : (s1 142 = S 142 + (lN ma - S (8 + c)) ∧ s1 143 = S 143 + (po.toInt64 - S (40 + c)) ∧ s1 144 = S 144 + (lN en - S (72 + c)) ∧ s1 145 = S 145 + (lN fu - S (104 + c))) ∧ (s1 (8 + c) = lN ma ∧ s1 (40 + c) = po.toInt64 ∧ s1 (72 + c) = lN en ∧ s1 (104 + c) = lN fu) ∧ ∀ j, j ≠ 142 → j ≠ 143 → j ≠ 144 → j ≠ 145 → j ≠ 8 + c → j ≠ 40 + c → j ≠ 72 + c → j ≠ 104 + c → s1 j = S j) :
    Rel s1 (NW.mk ((TB.mk (w.T.g) (w.T.ig) (w.T.pa) (w.T.he) (w.T.n) (w.T.lf) (w.T.rg) (w.T.ns) (M1) (P1) (E1) (F1) (td1) (w.T.cm) (w.T.gr) (w.T.gs))) (w.cS + 1) (w.gS) (no1) (w.A) (w.cnt) (w.ck) (w.cp) (w.ca) (w.cs) (w.cg) (w.nd) (w.im) (w.fr) (w.lo) (w.op) (w.rs) (w.hd) (w.fl) (w.cv) (w.gt) (w.nh) (w.nf) (w.nc)) (k + 1) := by
  obtain ⟨⟨r1, ⟨r21, r22, r23⟩, r3, r4⟩, ⟨a1, a2, a3⟩, hR, hP⟩ := h
  obtain ⟨⟨q1, q2, q3, q4, q5, q6, q7, q8⟩, q9⟩ := hq
  obtain ⟨⟨m1, m2, m3, m4⟩, ⟨m5, m6, m7, m8⟩, m9⟩ := hm
  have hn := r1.1.2.2.1
  rw [nI_l (by omega)] at q1 q3 q4 q5 q7 q8
  have e : ∀ j, j ≠ 8 + c → j ≠ 40 + c → j ≠ 72 + c → j ≠ 104 + c → (j < 142 ∨ 146 ≤ j) → s1 j = S j := fun j z1 z2 z3 z4 z5 => m9 j (by omega) (by omega) (by omega) (by omega) z1 z2 z3 z4
  have hv : s1 (8 + c) = (nI ma).toInt64 ∧ s1 (40 + c) = po.toInt64 ∧ s1 (72 + c) = (nI en).toInt64 ∧ s1 (104 + c) = (nI fu).toInt64 := ⟨by rw [nI_l (by omega)]; exact m5, m6, by rw [nI_l (by omega)]; exact m7, by rw [nI_l (by omega)]; exact m8⟩
  obtain ⟨t1, t2, t3, t4, ⟨t51, t52⟩, ⟨t61, t62⟩, t7, t8, t9⟩ := r1.1
  have hpo1 : -10000000 ≤ po.toInt64.toInt ∧ po.toInt64.toInt ≤ 10000000 := ⟨Int64.le_iff_toInt_le.mp hpo.1, Int64.le_iff_toInt_le.mp hpo.2⟩
  have hT : TS s1 w.T.g w.T.n w.T.lf w.T.rg := by
    refine ⟨t1, (e 0 (by omega) (by omega) (by omega) (by omega) (by omega)).trans t2, t3, (e 4 (by omega) (by omega) (by omega) (by omega) (by omega)).trans t4, ⟨t51, (e 5 (by omega) (by omega) (by omega) (by omega) (by omega)).trans t52⟩, ⟨t61, (e 6 (by omega) (by omega) (by omega) (by omega) (by omega)).trans t62⟩, by rw [e 2 (by omega) (by omega) (by omega) (by omega) (by omega)]; exact t7, by rw [e 3 (by omega) (by omega) (by omega) (by omega) (by omega)]; exact t8, fun j hj => ?_⟩
    by_cases z : j = c
    · subst z
      unfold OkC
      rw [show sM s1 j = lN ma from m5, show sP s1 j = po.toInt64 from m6, show sE s1 j = lN en from m7, show sF s1 j = lN fu from m8, lN_toInt (n := ma) (by omega), lN_toInt (n := en) (by omega), lN_toInt (n := fu) (by omega)]
      exact ⟨by omega, by omega, by omega, hwi, by omega, by omega⟩
    · exact (t9 j hj).cong (e _ (by omega) (by omega) (by omega) (by omega) (by omega)) (e _ (by omega) (by omega) (by omega) (by omega) (by omega)) (e _ (by omega) (by omega) (by omega) (by omega) (by omega)) (e _ (by omega) (by omega) (by omega) (by omega) (by omega))
  obtain ⟨c1, c2, c3, c4⟩ := r1.2.2 c hc
  refine ⟨⟨nt_cell r1 hc ⟨_, hT⟩ hv e (by rw [nI_l (by omega)]; exact q1) q2 (by rw [nI_l (by omega)]; exact q3) (by rw [nI_l (by omega)]; exact q4), ⟨(e 7 (by omega) (by omega) (by omega) (by omega) (by omega)).trans r21, fun j hj => (r22 j hj).trans (e _ (by omega) (by omega) (by omega) (by omega) (by omega)).symm, fun j hj => ?_⟩, fun j hj => ?_, r4⟩, ⟨a1.add (by omega) q9 (Or.inl ⟨rfl, c, rfl, hc, ⟨_, hT⟩, hv, e⟩), a2, by show w.cS + 1 ≤ k + 1; omega⟩, ?_, ?_⟩
  · obtain ⟨x1, x2⟩ := r23 j hj
    exact ⟨x1.trans (e _ (by omega) (by omega) (by omega) (by omega) (by omega)).symm, x2.trans (e _ (by omega) (by omega) (by omega) (by omega) (by omega)).symm⟩
  · show td1 j = s1 (142 + j)
    rcases (show j = 0 ∨ j = 1 ∨ j = 2 ∨ j = 3 by omega) with rfl | rfl | rfl | rfl
    · rw [q5, c1, r3 0 (by omega)]; exact m1.symm
    · rw [q6, c2, r3 1 (by omega)]; exact m2.symm
    · rw [q7, c3, r3 2 (by omega)]; exact m3.symm
    · rw [q8, c4, r3 3 (by omega)]; exact m4.symm
  · have := RelR.cong hR (S1 := s1) (fun j _ _ => e j (by omega) (by omega) (by omega) (by omega) (by omega))
    exact this
  · have := RelP.cong hP (S1 := s1) (fun j _ _ => e j (by omega) (by omega) (by omega) (by omega) (by omega))
    exact this
theorem TRa.copy {g n lf rg : Nat} {ig pa he : Int32} {M P E F M' P' E' F' : Nat → Int64} (h : TRa S g ig pa he n lf rg M P E F) (e : ∀ j, j < 32 → M' j = M j ∧ P' j = P j ∧ E' j = E j ∧ F' j = F j) : TRa S g ig pa he n lf rg M' P' E' F' := ⟨h.1, h.2.1, fun j hj => by
  have hn := h.1.2.2.1
  obtain ⟨q0, q1, q2, q3⟩ := h.2.2 j hj
  obtain ⟨e0, e1, e2, e3⟩ := e j (by omega)
  exact ⟨e0.trans q0, e1.trans q1, e2.trans q2, e3.trans q3⟩⟩
theorem TRa.vals {g n lf rg c : Nat} {ig pa he : Int32} {M P E F : Nat → Int64} (h : TRa S g ig pa he n lf rg M P E F) (hc : c < n) : w_gr (M c) = (S (8 + c)).toInt32 ∧ w_gr (P c) = (S (40 + c)).toInt32 ∧ w_gr (E c) = (S (72 + c)).toInt32 ∧ w_gr (F c) = (S (104 + c)).toInt32 := by
  obtain ⟨⟨-, h1⟩, ⟨-, h2⟩, ⟨-, h3⟩, -, -, h4⟩ := h.okc c hc
  obtain ⟨q0, q1, q2, q3⟩ := h.2.2 c hc
  refine ⟨?_, ?_, ?_, ?_⟩
  · rw [gr_small (by omega), q0]
  · rw [gr_small (by omega), q1]
  · rw [gr_small (by omega), q2]
  · rw [gr_small (by omega), q3]
/-- a fresh tube -/
theorem fresh_ok : OkC (fun _ => 1000) (fun _ => 0) (fun _ => 2000) (fun _ => 0) 0 := by
  unfold OkC
  decide +kernel
theorem Rel.shape {na lf9 rg9 : Nat} {M1 P1 E1 F1 td1 cm1 gr1 : Nat → Int64} {gs1 : Nat → Int32} {A9 : TB} (h : Rel S w k) (h1 : 2 ≤ na ∧ na ≤ 32) (h2 : lf9 ≤ 1) (h3 : rg9 ≤ 1) (hq : TlR na M1 P1 E1 F1 td1 ∧ (∀ j, j < 6 → cm1 j = 0) ∧ ∀ j, j < 32 → gr1 j = 0 ∧ gs1 j = 0)
    (hm : s1 4 = lN na ∧ s1 5 = lN lf9 ∧ s1 6 = lN rg9 ∧ s1 7 = 0 ∧ (∀ j, j < 32 → s1 (8 + j) = 1000 ∧ s1 (40 + j) = 0 ∧ s1 (72 + j) = 2000 ∧ s1 (104 + j) = 0 ∧ s1 (146 + j) = 0 ∧ s1 (178 + j) = 0) ∧ (∀ j, j < 6 → s1 (136 + j) = 0) ∧ (s1 142 = 1000 * lN na ∧ s1 143 = 0 ∧ s1 144 = 2000 * lN na ∧ s1 145 = 0) ∧ ∀ j, j < 4 ∨ 210 ≤ j → s1 j = S j)
    (hA : A9.g = w.T.g ∧ A9.ig = w.T.ig ∧ A9.pa = w.T.pa ∧ A9.he = w.T.he ∧ A9.n = na ∧ A9.lf = lf9 ∧ A9.rg = rg9 ∧ ∀ j, j < 32 → A9.M j = M1 j ∧ A9.P j = P1 j ∧ A9.E j = E1 j ∧ A9.F j = F1 j) :
    Rel s1 (NW.mk ((TB.mk (w.T.g) (w.T.ig) (w.T.pa) (w.T.he) (na) (lf9) (rg9) (0) (M1) (P1) (E1) (F1) (td1) (cm1) (gr1) (gs1))) (0) (0) (w.no) (A9) (w.cnt) (w.ck) (w.cp) (w.ca) (w.cs) (w.cg) (w.nd) (w.im) (w.fr) (w.lo) (w.op) (w.rs) (w.hd) (w.fl) (w.cv) (w.gt) (w.nh) (w.nf) (w.nc)) (k + 1) := by
  obtain ⟨⟨r1, -, -, -⟩, -, hR, hP⟩ := h
  obtain ⟨m4, m5, m6, m7, m8, m9, ⟨m10, m11, m12, m13⟩, e⟩ := hm
  obtain ⟨⟨q1, -, q2, q3, q4, q5⟩, q6, q7⟩ := hq
  obtain ⟨A1, A2, A3, A4, A5, A6, A7, A8⟩ := hA
  obtain ⟨⟨t1, t2, -, -, -, -, t7, t8, -⟩, ⟨l1, l2, l3⟩, -⟩ := r1
  have hT : TRa s1 w.T.g w.T.ig w.T.pa w.T.he na lf9 rg9 M1 P1 E1 F1 := by
    refine ⟨⟨t1, (e 0 (by omega)).trans t2, h1, m4, ⟨h2, m5⟩, ⟨h3, m6⟩, by rw [e 2 (by omega)]; exact t7, by rw [e 3 (by omega)]; exact t8, fun j hj => ?_⟩, ⟨(e 1 (by omega)).trans l1, (e 2 (by omega)).trans l2, (e 3 (by omega)).trans l3⟩, fun j hj => ?_⟩
    · obtain ⟨x1, x2, x3, x4, -⟩ := m8 j (by omega)
      have := fresh_ok
      unfold OkC at this ⊢
      rw [show sM s1 j = 1000 from x1, show sP s1 j = 0 from x2, show sE s1 j = 2000 from x3, show sF s1 j = 0 from x4]
      exact this
    · obtain ⟨x1, x2, x3, x4, -⟩ := m8 j (by omega)
      obtain ⟨y1, y2, y3, y4⟩ := q1 j hj
      exact ⟨y1.trans x1.symm, y2.trans x2.symm, y3.trans x3.symm, y4.trans x4.symm⟩
  refine ⟨⟨hT, ⟨m7, fun j hj => (q6 j hj).trans (m9 j hj).symm, fun j hj => ?_⟩, fun j hj => ?_, by show 0 ≤ 300; omega⟩, ⟨?_, ⟨A5, A6, A7⟩, Nat.zero_le _⟩, ?_, ?_⟩
  · have hj' : j < na := hj
    obtain ⟨-, -, -, -, x5, x6⟩ := m8 j (by omega)
    obtain ⟨y1, y2⟩ := q7 j (by omega)
    exact ⟨y1.trans x5.symm, by show (gs1 j).toInt64 = _; rw [y2, x6]; rfl⟩
  · show td1 j = s1 (142 + j)
    rcases (show j = 0 ∨ j = 1 ∨ j = 2 ∨ j = 3 by omega) with rfl | rfl | rfl | rfl
    · rw [q2]; exact m10.symm
    · rw [q3]; exact m11.symm
    · rw [q4]; exact m12.symm
    · rw [q5]; exact m13.symm
  · show SI na lf9 rg9 0 0 w.no s1 A9.g A9.ig A9.pa A9.he A9.M A9.P A9.E A9.F
    rw [A1, A2, A3, A4]
    exact SI.begin (hT.copy A8)
  · have := RelR.cong hR (S1 := s1) (fun j _ _ => e j (by omega))
    exact this
  · have := RelP.cong hP (S1 := s1) (fun j _ _ => e j (by omega))
    exact this
theorem Rel.anew {A9 : TB} (h : Rel S w k) (hA : TRa S A9.g A9.ig A9.pa A9.he A9.n A9.lf A9.rg A9.M A9.P A9.E A9.F) (hn : A9.n = w.A.n ∧ A9.lf = w.A.lf ∧ A9.rg = w.A.rg) : Rel S (NW.mk (w.T) (w.cS) (w.cS) (w.no) (A9) (w.cnt) (w.ck) (w.cp) (w.ca) (w.cs) (w.cg) (w.nd) (w.im) (w.fr) (w.lo) (w.op) (w.rs) (w.hd) (w.fl) (w.cv) (w.gt) (w.nh) (w.nf) (w.nc)) k := by
  obtain ⟨hT, ⟨a1, ⟨a2, a3, a4⟩, a5⟩, hR, hP⟩ := h
  obtain ⟨n1, n2, n3⟩ := hn
  refine ⟨hT, ⟨⟨⟨Nat.le_refl _, a1.1.2⟩, fun _ => S, fun _ _ => rfl, ?_, fun i h1 h2 => absurd h2 (by show ¬ i < w.cS; have h1' : w.cS ≤ i := h1; omega)⟩, ⟨n1.trans a2, n2.trans a3, n3.trans a4⟩, a5⟩, hR, hP⟩
  show TRa S A9.g A9.ig A9.pa A9.he w.T.n w.T.lf w.T.rg A9.M A9.P A9.E A9.F
  rw [← a2, ← a3, ← a4, ← n1, ← n2, ← n3]
  exact hA
def TB.like (a b : TB) : Prop := (b.g = a.g ∧ b.ig = a.ig ∧ b.pa = a.pa ∧ b.he = a.he ∧ b.n = a.n ∧ b.lf = a.lf ∧ b.rg = a.rg ∧ b.ns = a.ns) ∧ (∀ j, j < 32 → b.M j = a.M j ∧ b.P j = a.P j ∧ b.E j = a.E j ∧ b.F j = a.F j) ∧ (∀ j, j < 32 → b.gr j = a.gr j ∧ b.gs j = a.gs j) ∧ (∀ j, j < 4 → b.td j = a.td j) ∧ ∀ j, j < 6 → b.cm j = a.cm j
def NW.like (a b : NW) : Prop := TB.like a.T b.T ∧ TB.like a.A b.A ∧ (b.cS = a.cS ∧ b.gS = a.gS ∧ ∀ j, j < a.cS * 6 → b.no j = a.no j) ∧ (b.cnt = a.cnt ∧ ∀ j, j < 8 → b.ck j = a.ck j ∧ b.cp j = a.cp j ∧ b.ca j = a.ca j ∧ b.cs j = a.cs j ∧ b.cg j = a.cg j) ∧ (b.nd = a.nd ∧ b.im = a.im ∧ b.fr = a.fr ∧ b.lo = a.lo ∧ b.op = a.op ∧ b.rs = a.rs) ∧ ∀ j, j < 21 → b.hd j = a.hd j ∧ b.fl j = a.fl j ∧ b.cv j = a.cv j ∧ b.gt j = a.gt j
theorem RelT.like {a b : TB} (h : RelT S a) (hl : TB.like a b) : RelT S b := by
  obtain ⟨r1, ⟨r21, r22, r23⟩, r3, r4⟩ := h
  obtain ⟨⟨e1, e2, e3, e4, e5, e6, e7, e8⟩, l1, l2, l3, l4⟩ := hl
  have hn := r1.1.2.2.1
  refine ⟨?_, ⟨?_, fun j hj => (l4 j hj).trans (r22 j hj), fun j hj => ?_⟩, fun j hj => (l3 j hj).trans (r3 j hj), by rw [e8]; exact r4⟩
  · rw [e1, e2, e3, e4, e5, e6, e7]; exact r1.copy l1
  · rw [e8]; exact r21
  · rw [e5] at hj
    obtain ⟨q1, q2⟩ := r23 j hj
    obtain ⟨p1, p2⟩ := l2 j (by omega)
    exact ⟨p1.trans q1, by rw [p2]; exact q2⟩
theorem Rel.like {w' : NW} (h : Rel S w k) (hl : NW.like w w') : Rel S w' k := by
  obtain ⟨hT, ⟨a1, ⟨a2, a3, a4⟩, a5⟩, ⟨b1, b2, b3, b4⟩, hP⟩ := h
  obtain ⟨l1, l2, ⟨l3, l4, l5⟩, ⟨l6, l7⟩, ⟨d1, d2, d3, d4, d5, d6⟩, l9⟩ := hl
  have e5 := l1.1.2.2.2.2.1
  have e6 := l1.1.2.2.2.2.2.1
  have e7 := l1.1.2.2.2.2.2.2.1
  obtain ⟨⟨f1, f2, f3, f4, f5, f6, f7, f8⟩, g1, -⟩ := l2
  have hrow : Ag4 w.cnt w'.row w.row := fun a j ha hj => by
    obtain ⟨x1, x2, x3, x4, x5⟩ := l7 j (by omega)
    show fR _ _ _ _ _ a j = fR _ _ _ _ _ a j
    unfold fR
    rw [x1, x2, x3, x4, x5]
  refine ⟨hT.like l1, ⟨?_, ⟨by rw [f5, e5]; exact a2, by rw [f6, e6]; exact a3, by rw [f7, e7]; exact a4⟩, by rw [l3]; exact a5⟩, ⟨by rw [l6]; exact b1, by rw [l6]; exact b2, ?_, fun Bf => ?_⟩, ?_⟩
  · rw [e5, e6, e7, l3, l4, f1, f2, f3, f4]
    have a1' := a1.cong (S1 := S) (fun _ _ => rfl) l5
    obtain ⟨z1, Sq, z2, z3, z4⟩ := a1'
    exact ⟨z1, Sq, z2, z3.copy g1, z4⟩
  · rw [l6]
    exact FB.cong b3 (fun a j ha hj => (hrow a j ha hj).symm)
  · rw [l6]
    exact fun a j ha hj => (hrow a j ha hj).trans (b4 Bf a j ha hj)
  · rcases hP with ⟨p1, p2⟩ | ⟨la, p1, p2⟩
    · exact Or.inl ⟨d1.trans p1, p2⟩
    · refine Or.inr ⟨la, d1.trans p1, ?_⟩
      rw [d2, d3, d4, d5, d6]
      have hla := p2.1.2.1.2.2
      exact ⟨p2.1, fun j hj => by
        obtain ⟨x1, x2, x3, x4⟩ := l9 j (by omega)
        obtain ⟨y1, y2, y3, y4⟩ := p2.2 j hj
        exact ⟨x1.trans y1, x2.trans y2, x3.trans y3, x4.trans y4⟩⟩
end RO

