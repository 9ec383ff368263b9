/-! the invariant of the law, kept by each call -/
def PI (k : Nat) (w : NW) : Prop := ∃ S, Rel S w k ∧ KEPT S w.T.n ∧ (w.nd = 0 ∨ ¬ S 313 < S 250)
def rowS (S : Nat → Int64) (w : NW) (j : Nat) : Int64 :=
  if j = 210 then lN w.cnt
  else if 211 ≤ j ∧ j < 219 then (w.ck (j - 211)).toInt64
  else if 219 ≤ j ∧ j < 227 then (w.cp (j - 219)).toInt64
  else if 227 ≤ j ∧ j < 235 then (w.cs (j - 227)).toInt64
  else if 235 ≤ j ∧ j < 243 then (w.cg (j - 235)).toInt64
  else S j
theorem rowS_no {S : Nat → Int64} {w : NW} {j : Nat} (h : j < 210 ∨ 243 ≤ j) : rowS S w j = S j := by
  unfold rowS
  rw [if_neg (by omega), if_neg (by omega), if_neg (by omega), if_neg (by omega), if_neg (by omega)]
theorem rowR {S : Nat → Int64} {w : NW} (h8 : w.cnt ≤ 8) (hF : FB w.cnt w.row) : RelR (rowS S w) w := by
  refine ⟨if_pos rfl, h8, hF, fun Bf a j ha hj => ?_⟩
  have e0 : rowS S w (211 + j) = (w.ck j).toInt64 := by
    unfold rowS
    rw [if_neg (by omega), if_pos (by omega), Nat.add_sub_cancel_left]
  have e1 : rowS S w (219 + j) = (w.cp j).toInt64 := by
    unfold rowS
    rw [if_neg (by omega), if_neg (by omega), if_pos (by omega), Nat.add_sub_cancel_left]
  have e2 : rowS S w (227 + j) = (w.cs j).toInt64 := by
    unfold rowS
    rw [if_neg (by omega), if_neg (by omega), if_neg (by omega), if_pos (by omega), Nat.add_sub_cancel_left]
  have e3 : rowS S w (235 + j) = (w.cg j).toInt64 := by
    unfold rowS
    rw [if_neg (by omega), if_neg (by omega), if_neg (by omega), if_neg (by omega), if_pos (by omega), Nat.add_sub_cancel_left]
  rcases (show a = 0 ∨ a = 1 ∨ a = 2 ∨ a = 3 by omega) with rfl | rfl | rfl | rfl
  · show (w.ck j).toInt = (rowS S w (211 + j)).toInt
    rw [e0, Int32.toInt_toInt64]
  · show (w.cp j).toInt = (rowS S w (219 + j)).toInt
    rw [e1, Int32.toInt_toInt64]
  · show (w.cs j).toInt = (rowS S w (227 + j)).toInt
    rw [e2, Int32.toInt_toInt64]
  · show (w.cg j).toInt = (rowS S w (235 + j)).toInt
    rw [e3, Int32.toInt_toInt64]
theorem KEPT.told {S S1 : Nat → Int64} {n c : Nat} {v0 v1 v2 v3 : Int64} (h : KEPT S n) (hn : n ≤ 32) (hc : c < n)
    (hm : (S1 142 = S 142 + (v0 - S (8 + c)) ∧ S1 143 = S 143 + (v1 - S (40 + c)) ∧ S1 144 = S 144 + (v2 - S (72 + c)) ∧ S1 145 = S 145 + (v3 - S (104 + c))) ∧ (S1 (8 + c) = v0 ∧ S1 (40 + c) = v1 ∧ S1 (72 + c) = v2 ∧ S1 (104 + c) = v3) ∧ ∀ j, j ≠ 142 → j ≠ 143 → j ≠ 144 → j ≠ 145 → j ≠ 8 + c → j ≠ 40 + c → j ≠ 72 + c → j ≠ 104 + c → S1 j = S j) : KEPT S1 n := by
  obtain ⟨k0, k1, k2, k3⟩ := h
  obtain ⟨⟨m0, m1, m2, m3⟩, ⟨v0e, v1e, v2e, v3e⟩, e⟩ := hm
  have s0 := w_sum_set (f := fun c9 => S (8 + c9)) (g := fun c9 => S1 (8 + c9)) (n := n) hc (fun j hj hjc => e _ (by omega) (by omega) (by omega) (by omega) (by omega) (by omega) (by omega) (by omega))
  have s1 := w_sum_set (f := fun c9 => S (40 + c9)) (g := fun c9 => S1 (40 + c9)) (n := n) hc (fun j hj hjc => e _ (by omega) (by omega) (by omega) (by omega) (by omega) (by omega) (by omega) (by omega))
  have s2 := w_sum_set (f := fun c9 => S (72 + c9)) (g := fun c9 => S1 (72 + c9)) (n := n) hc (fun j hj hjc => e _ (by omega) (by omega) (by omega) (by omega) (by omega) (by omega) (by omega) (by omega))
  have s3 := w_sum_set (f := fun c9 => S (104 + c9)) (g := fun c9 => S1 (104 + c9)) (n := n) hc (fun j hj hjc => e _ (by omega) (by omega) (by omega) (by omega) (by omega) (by omega) (by omega) (by omega))
  have f136 := e 136 (by omega) (by omega) (by omega) (by omega) (by omega) (by omega) (by omega) (by omega)
  have f137 := e 137 (by omega) (by omega) (by omega) (by omega) (by omega) (by omega) (by omega) (by omega)
  have f138 := e 138 (by omega) (by omega) (by omega) (by omega) (by omega) (by omega) (by omega) (by omega)
  have f139 := e 139 (by omega) (by omega) (by omega) (by omega) (by omega) (by omega) (by omega) (by omega)
  have f140 := e 140 (by omega) (by omega) (by omega) (by omega) (by omega) (by omega) (by omega) (by omega)
  have f141 := e 141 (by omega) (by omega) (by omega) (by omega) (by omega) (by omega) (by omega) (by omega)
  refine ⟨?_, ?_, ?_, ?_⟩
  · rw [s0, k0, v0e, m0, f136]; exact gh_4 _ _ _
  · rw [s1, k1, v1e, m1, f137]; exact gh_4 _ _ _
  · rw [s2, k2, v2e, m2, f138, f140]; exact gh_5 _ _ _ _
  · rw [s3, k3, v3e, m3, f139, f141]; exact gh_5 _ _ _ _
/-- a cell told, in the ghost -/
def celS (S : Nat → Int64) (c ma en fu : Nat) (po : Int32) (j : Nat) : Int64 :=
  if j = 142 then S 142 + (lN ma - S (8 + c))
  else if j = 143 then S 143 + (po.toInt64 - S (40 + c))
  else if j = 144 then S 144 + (lN en - S (72 + c))
  else if j = 145 then S 145 + (lN fu - S (104 + c))
  else if j = 8 + c then lN ma
  else if j = 40 + c then po.toInt64
  else if j = 72 + c then lN en
  else if j = 104 + c then lN fu
  else S j
theorem celS_ok (S : Nat → Int64) {c ma en fu : Nat} {po : Int32} (hc : c < 32) : (celS S c ma en fu po 142 = S 142 + (lN ma - S (8 + c)) ∧ celS S c ma en fu po 143 = S 143 + (po.toInt64 - S (40 + c)) ∧ celS S c ma en fu po 144 = S 144 + (lN en - S (72 + c)) ∧ celS S c ma en fu po 145 = S 145 + (lN fu - S (104 + c))) ∧ (celS S c ma en fu po (8 + c) = lN ma ∧ celS S c ma en fu po (40 + c) = po.toInt64 ∧ celS S c ma en fu po (72 + c) = lN en ∧ celS S c ma en fu po (104 + c) = lN fu) ∧ ∀ j, j ≠ 142 → j ≠ 143 → j ≠ 144 → j ≠ 145 → j ≠ 8 + c → j ≠ 40 + c → j ≠ 72 + c → j ≠ 104 + c → celS S c ma en fu po j = S j := by
  refine ⟨⟨if_pos rfl, ?_, ?_, ?_⟩, ⟨?_, ?_, ?_, ?_⟩, fun j h1 h2 h3 h4 h5 h6 h7 h8 => ?_⟩
  · unfold celS; rw [if_neg (by omega), if_pos rfl]
  · unfold celS; rw [if_neg (by omega), if_neg (by omega), if_pos rfl]
  · unfold celS; rw [if_neg (by omega), if_neg (by omega), if_neg (by omega), if_pos rfl]
  · unfold celS; rw [if_neg (by omega), if_neg (by omega), if_neg (by omega), if_neg (by omega), if_pos rfl]
  · unfold celS; rw [if_neg (by omega), if_neg (by omega), if_neg (by omega), if_neg (by omega), if_neg (by omega), if_pos rfl]
  · unfold celS; rw [if_neg (by omega), if_neg (by omega), if_neg (by omega), if_neg (by omega), if_neg (by omega), if_neg (by omega), if_pos rfl]
  · unfold celS; rw [if_neg (by omega), if_neg (by omega), if_neg (by omega), if_neg (by omega), if_neg (by omega), if_neg (by omega), if_neg (by omega), if_pos rfl]
  · unfold celS; rw [if_neg h1, if_neg h2, if_neg h3, if_neg h4, if_neg h5, if_neg h6, if_neg h7, if_neg h8]
/-- a tube shaped, in the ghost -/
def shpS (S : Nat → Int64) (na lf rg : Nat) (j : Nat) : Int64 :=
  if j < 4 ∨ 210 ≤ j then S j
  else if j = 4 then lN na
  else if j = 5 then lN lf
  else if j = 6 then lN rg
  else if 8 ≤ j ∧ j < 40 then 1000
  else if 72 ≤ j ∧ j < 104 then 2000
  else if j = 142 then 1000 * lN na
  else if j = 144 then 2000 * lN na
  else 0
theorem shpS_0 {S : Nat → Int64} {na lf rg j : Nat} (h : j = 7 ∨ (40 ≤ j ∧ j < 72) ∨ (104 ≤ j ∧ j < 142) ∨ j = 143 ∨ (145 ≤ j ∧ j < 210)) : shpS S na lf rg j = 0 := by
  unfold shpS
  rw [if_neg (by omega), if_neg (by omega), if_neg (by omega), if_neg (by omega), if_neg (by omega), if_neg (by omega), if_neg (by omega), if_neg (by omega)]
theorem shpS_ok (S : Nat → Int64) (na lf rg : Nat) : shpS S na lf rg 4 = lN na ∧ shpS S na lf rg 5 = lN lf ∧ shpS S na lf rg 6 = lN rg ∧ shpS S na lf rg 7 = 0 ∧ (∀ j, j < 32 → shpS S na lf rg (8 + j) = 1000 ∧ shpS S na lf rg (40 + j) = 0 ∧ shpS S na lf rg (72 + j) = 2000 ∧ shpS S na lf rg (104 + j) = 0 ∧ shpS S na lf rg (146 + j) = 0 ∧ shpS S na lf rg (178 + j) = 0) ∧ (∀ j, j < 6 → shpS S na lf rg (136 + j) = 0) ∧ (shpS S na lf rg 142 = 1000 * lN na ∧ shpS S na lf rg 143 = 0 ∧ shpS S na lf rg 144 = 2000 * lN na ∧ shpS S na lf rg 145 = 0) ∧ ∀ j, j < 4 ∨ 210 ≤ j → shpS S na lf rg j = S j := by
  refine ⟨?_, ?_, ?_, shpS_0 (by omega), fun j hj => ⟨?_, shpS_0 (by omega), ?_, shpS_0 (by omega), shpS_0 (by omega), shpS_0 (by omega)⟩, fun j hj => shpS_0 (by omega), ⟨?_, shpS_0 (by omega), ?_, shpS_0 (by omega)⟩, fun j hj => if_pos hj⟩
  · unfold shpS; rw [if_neg (by omega), if_pos rfl]
  · unfold shpS; rw [if_neg (by omega), if_neg (by omega), if_pos rfl]
  · unfold shpS; rw [if_neg (by omega), if_neg (by omega), if_neg (by omega), if_pos rfl]
  · unfold shpS; rw [if_neg (by omega), if_neg (by omega), if_neg (by omega), if_neg (by omega), if_pos (by omega)]
  · unfold shpS; rw [if_neg (by omega), if_neg (by omega), if_neg (by omega), if_neg (by omega), if_neg (by omega), if_pos (by omega)]
  · unfold shpS; rw [if_neg (by omega), if_neg (by omega), if_neg (by omega), if_neg (by omega), if_neg (by omega), if_neg (by omega), if_pos rfl]
  · unfold shpS; rw [if_neg (by omega), if_neg (by omega), if_neg (by omega), if_neg (by omega), if_neg (by omega), if_neg (by omega), if_neg (by omega), if_pos rfl]
theorem shpS_kept (S : Nat → Int64) {na lf rg : Nat} (hn : na ≤ 32) : KEPT (shpS S na lf rg) na := by
  obtain ⟨-, -, -, -, m8, m9, ⟨a, b, c, d⟩, -⟩ := shpS_ok S na lf rg
  have z : ∀ j, j < 6 → shpS S na lf rg (136 + j) = 0 := m9
  refine ⟨?_, ?_, ?_, ?_⟩
  · rw [w_sum_all (v := 1000) (fun j hj => (m8 j (by omega)).1), a, show shpS S na lf rg 136 = 0 from z 0 (by omega)]
    generalize lN na = q
    grind
  · rw [w_sum_all (v := 0) (fun j hj => (m8 j (by omega)).2.1), b, show shpS S na lf rg 137 = 0 from z 1 (by omega)]
    generalize lN na = q
    grind
  · rw [w_sum_all (v := 2000) (fun j hj => (m8 j (by omega)).2.2.1), c, show shpS S na lf rg 138 = 0 from z 2 (by omega), show shpS S na lf rg 140 = 0 from z 4 (by omega)]
    generalize lN na = q
    grind
  · rw [w_sum_all (v := 0) (fun j hj => (m8 j (by omega)).2.2.2.1), d, show shpS S na lf rg 139 = 0 from z 3 (by omega), show shpS S na lf rg 141 = 0 from z 5 (by omega)]
    generalize lN na = q
    grind
/-- a pipe begun, in the ghost -/
def pipS (S : Nat → Int64) (re im fr lo hd9 : Nat) (fl9 : Int32) (j : Nat) : Int64 :=
  if j < 243 then S j
  else if j = 243 then 1
  else if j = 244 then lN re
  else if j = 245 then lN im
  else if j = 246 then lN fr
  else if j = 247 then lN lo
  else if j = 248 then lN hd9
  else if j = 249 then lN 100
  else if j < 271 then lN hd9
  else if j < 292 then fl9.toInt64
  else if j < 313 then 0
  else lN hd9
theorem pipS_ok (S : Nat → Int64) (re im fr lo hd9 : Nat) (fl9 : Int32) : pipS S re im fr lo hd9 fl9 243 = 1 ∧ pipS S re im fr lo hd9 fl9 244 = lN re ∧ pipS S re im fr lo hd9 fl9 245 = lN im ∧ pipS S re im fr lo hd9 fl9 246 = lN fr ∧ pipS S re im fr lo hd9 fl9 247 = lN lo ∧ pipS S re im fr lo hd9 fl9 248 = lN hd9 ∧ pipS S re im fr lo hd9 fl9 249 = lN 100 ∧ (∀ j, j < 21 → pipS S re im fr lo hd9 fl9 (250 + j) = lN hd9 ∧ pipS S re im fr lo hd9 fl9 (271 + j) = fl9.toInt64 ∧ pipS S re im fr lo hd9 fl9 (292 + j) = 0 ∧ pipS S re im fr lo hd9 fl9 (313 + j) = lN hd9) ∧ ∀ j, j < 243 → pipS S re im fr lo hd9 fl9 j = S j := by
  refine ⟨?_, ?_, ?_, ?_, ?_, ?_, ?_, fun j hj => ⟨?_, ?_, ?_, ?_⟩, fun j hj => if_pos hj⟩
  · unfold pipS; rw [if_neg (by omega), if_pos rfl]
  · unfold pipS; rw [if_neg (by omega), if_neg (by omega), if_pos rfl]
  · unfold pipS; rw [if_neg (by omega), if_neg (by omega), if_neg (by omega), if_pos rfl]
  · unfold pipS; rw [if_neg (by omega), if_neg (by omega), if_neg (by omega), if_neg (by omega), if_pos rfl]
  · unfold pipS; rw [if_neg (by omega), if_neg (by omega), if_neg (by omega), if_neg (by omega), if_neg (by omega), if_pos rfl]
  · unfold pipS; rw [if_neg (by omega), if_neg (by omega), if_neg (by omega), if_neg (by omega), if_neg (by omega), if_neg (by omega), if_pos rfl]
  · unfold pipS; rw [if_neg (by omega), if_neg (by omega), if_neg (by omega), if_neg (by omega), if_neg (by omega), if_neg (by omega), if_neg (by omega), if_pos rfl]
  · unfold pipS; rw [if_neg (by omega), if_neg (by omega), if_neg (by omega), if_neg (by omega), if_neg (by omega), if_neg (by omega), if_neg (by omega), if_neg (by omega), if_pos (by omega)]
  · unfold pipS; rw [if_neg (by omega), if_neg (by omega), if_neg (by omega), if_neg (by omega), if_neg (by omega), if_neg (by omega), if_neg (by omega), if_neg (by omega), if_neg (by omega), if_pos (by omega)]
  · unfold pipS; rw [if_neg (by omega), if_neg (by omega), if_neg (by omega), if_neg (by omega), if_neg (by omega), if_neg (by omega), if_neg (by omega), if_neg (by omega), if_neg (by omega), if_neg (by omega), if_pos (by omega)]
  · unfold pipS; rw [if_neg (by omega), if_neg (by omega), if_neg (by omega), if_neg (by omega), if_neg (by omega), if_neg (by omega), if_neg (by omega), if_neg (by omega), if_neg (by omega), if_neg (by omega), if_neg (by omega)]
section PIk
variable {w : NW} {k : Nat}
theorem PI.mono (h : PI k w) : PI (k + 1) w := by
  obtain ⟨S, h1, h2, h3⟩ := h
  exact ⟨S, h1.mono (Nat.le_succ k), h2, h3⟩
theorem PI.gas {g9 : Nat} {no1 : Nat → Int32} (h : PI k w) (hk : k < 512) (hg : g9 < 3) (hq : (no1 (w.cS * 6) = 1 ∧ no1 (w.cS * 6 + 1) = (nI g9) ∧ no1 (w.cS * 6 + 2) = 0 ∧ no1 (w.cS * 6 + 3) = 0 ∧ no1 (w.cS * 6 + 4) = 0 ∧ no1 (w.cS * 6 + 5) = 0) ∧ ∀ j, j < w.cS * 6 → no1 j = w.no j) : PI (k + 1) (NW.mk ((TB.mk (g9) (w.T.ig) (w.T.pa) (w.T.he) (w.T.n) (w.T.lf) (w.T.rg) (w.T.ns) (w.T.M) (w.T.P) (w.T.E) (w.T.F) (w.T.td) (w.T.cm) (w.T.gr) (w.T.gs))) (w.cS + 1) (w.gS) (no1) (w.A) (w.cnt) (w.ck) (w.cp) (w.ca) (w.cs) (w.cg) (w.nd) (w.im) (w.fr) (w.lo) (w.op) (w.rs) (w.hd) (w.fl) (w.cv) (w.gt) (w.nh) (w.nf) (w.nc)) := by
  obtain ⟨S, h1, h2, h3⟩ := h
  refine ⟨vp_updL S 0 (lN g9), h1.gas hk hg hq rfl, h2.cong h1.n32.2 (fun j q1 q2 => pk_uLn (by omega)), h3.elim Or.inl (fun z => Or.inr ?_)⟩
  rw [pk_uLn (by omega), pk_uLn (by omega)]
  exact z
theorem PI.ignition {te pa he : Nat} {no1 : Nat → Int32} (h : PI k w) (hk : k < 512) (h1 : te ≤ 100000) (h2 : pa ≤ 100) (h3 : he ≤ 1000) (hq : (no1 (w.cS * 6) = 2 ∧ no1 (w.cS * 6 + 1) = (nI te) ∧ no1 (w.cS * 6 + 2) = (nI pa) ∧ no1 (w.cS * 6 + 3) = (nI he) ∧ no1 (w.cS * 6 + 4) = 0 ∧ no1 (w.cS * 6 + 5) = 0) ∧ ∀ j, j < w.cS * 6 → no1 j = w.no j) : PI (k + 1) (NW.mk ((TB.mk (w.T.g) (nI te) (nI pa) (nI he) (w.T.n) (w.T.lf) (w.T.rg) (w.T.ns) (w.T.M) (w.T.P) (w.T.E) (w.T.F) (w.T.td) (w.T.cm) (w.T.gr) (w.T.gs))) (w.cS + 1) (w.gS) (no1) (w.A) (w.cnt) (w.ck) (w.cp) (w.ca) (w.cs) (w.cg) (w.nd) (w.im) (w.fr) (w.lo) (w.op) (w.rs) (w.hd) (w.fl) (w.cv) (w.gt) (w.nh) (w.nf) (w.nc)) := by
  obtain ⟨S, r1, r2, r3⟩ := h
  have e : ∀ j, 4 ≤ j → vp_updL (vp_updL (vp_updL S 1 (lN te)) 2 (lN pa)) 3 (lN he) j = S j := fun j hj => by rw [pk_uLn (by omega), pk_uLn (by omega), pk_uLn (by omega)]
  refine ⟨_, r1.ignition hk h1 h2 h3 hq rfl, r2.cong r1.n32.2 (fun j q1 q2 => e j (by omega)), r3.elim Or.inl (fun z => Or.inr ?_)⟩
  rw [e 313 (by omega), e 250 (by omega)]
  exact z
theorem PI.cell {c ma en fu : Nat} {po : Int32} {M1 P1 E1 F1 td1 : Nat → Int64} {no1 : Nat → Int32} (h : PI k w) (hk : k < 512) (hc : c < w.T.n) (hma : 1 ≤ ma ∧ ma ≤ 1000000) (hpo : w_in po.toInt64 (-10000000) 10000000) (hen : en ≤ 1000000000) (hfu : fu ≤ ma) (hwi : 0 ≤ (w_within (lN ma) po.toInt64 (lN en)).toInt)
    (hq : (M1 = vp_updL w.T.M c (nI ma).toInt64 ∧ P1 = vp_updL w.T.P c po.toInt64 ∧ E1 = vp_updL w.T.E c (nI en).toInt64 ∧ F1 = vp_updL w.T.F c (nI fu).toInt64 ∧ td1 0 = w.T.td 0 + ((nI ma).toInt64 - w.T.M c) ∧ td1 1 = w.T.td 1 + (po.toInt64 - w.T.P c) ∧ td1 2 = w.T.td 2 + ((nI en).toInt64 - w.T.E c) ∧ td1 3 = w.T.td 3 + ((nI fu).toInt64 - w.T.F c)) ∧ (no1 (w.cS * 6) = 0 ∧ no1 (w.cS * 6 + 1) = (nI c) ∧ no1 (w.cS * 6 + 2) = (nI ma) ∧ no1 (w.cS * 6 + 3) = po ∧ no1 (w.cS * 6 + 4) = (nI en) ∧ no1 (w.cS * 6 + 5) = (nI fu)) ∧ ∀ j, j < w.cS * 6 → no1 j = w.no j) :
    PI (k + 1) (NW.mk ((TB.mk (w.T.g) (w.T.ig) (w.T.pa) (w.T.he) (w.T.n) (w.T.lf) (w.T.rg) (w.T.ns) (M1) (P1) (E1) (F1) (td1) (w.T.cm) (w.T.gr) (w.T.gs))) (w.cS + 1) (w.gS) (no1) (w.A) (w.cnt) (w.ck) (w.cp) (w.ca) (w.cs) (w.cg) (w.nd) (w.im) (w.fr) (w.lo) (w.op) (w.rs) (w.hd) (w.fl) (w.cv) (w.gt) (w.nh) (w.nf) (w.nc)) := by
  obtain ⟨S, r1, r2, r3⟩ := h
  have hn := r1.n32
  have hm := celS_ok S (c := c) (ma := ma) (en := en) (fu := fu) (po := po) (by omega)
  refine ⟨_, r1.cell hk hc hma hpo hen hfu hwi hq hm, r2.told hn.2 hc hm, r3.elim Or.inl (fun z => Or.inr ?_)⟩
  rw [hm.2.2 313 (by omega) (by omega) (by omega) (by omega) (by omega) (by omega) (by omega) (by omega), hm.2.2 250 (by omega) (by omega) (by omega) (by omega) (by omega) (by omega) (by omega) (by omega)]
  exact z
theorem PI.shape {na lf9 rg9 : Nat} {M1 P1 E1 F1 td1 cm1 gr1 : Nat → Int64} {gs1 : Nat → Int32} {A9 : TB} (h : PI k w) (h1 : 2 ≤ na ∧ na ≤ 32) (h2 : lf9 ≤ 1) (h3 : rg9 ≤ 1) (hq : TlR na M1 P1 E1 F1 td1 ∧ (∀ j, j < 6 → cm1 j = 0) ∧ ∀ j, j < 32 → gr1 j = 0 ∧ gs1 j = 0)
    (hA : A9.g = w.T.g ∧ A9.ig = w.T.ig ∧ A9.pa = w.T.pa ∧ A9.he = w.T.he ∧ A9.n = na ∧ A9.lf = lf9 ∧ A9.rg = rg9 ∧ ∀ j, j < 32 → A9.M j = M1 j ∧ A9.P j = P1 j ∧ A9.E j = E1 j ∧ A9.F j = F1 j) :
    PI (k + 1) (NW.mk ((TB.mk (w.T.g) (w.T.ig) (w.T.pa) (w.T.he) (na) (lf9) (rg9) (0) (M1) (P1) (E1) (F1) (td1) (cm1) (gr1) (gs1))) (0) (0) (w.no) (A9) (w.cnt) (w.ck) (w.cp) (w.ca) (w.cs) (w.cg) (w.nd) (w.im) (w.fr) (w.lo) (w.op) (w.rs) (w.hd) (w.fl) (w.cv) (w.gt) (w.nh) (w.nf) (w.nc)) := by
  obtain ⟨S, r1, r2, r3⟩ := h
  refine ⟨_, r1.shape h1 h2 h3 hq (shpS_ok S na lf9 rg9) hA, shpS_kept S h1.2, r3.elim Or.inl (fun z => Or.inr ?_)⟩
  have e := (shpS_ok S na lf9 rg9).2.2.2.2.2.2.2
  rw [e 313 (by omega), e 250 (by omega)]
  exact z
theorem PI.step {t9 m9 k9 ns1 c9 : Nat} {M1 P1 E1 F1 cm1 gr1 : Nat → Int64} {gs1 : Nat → Int32} {no1 : Nat → Int32} (h : PI k w) (hk : k < 512) (ht : 1 ≤ t9 ∧ t9 ≤ 400) (hm9 : 1 ≤ m9 ∧ m9 ≤ 50) (hns : w.T.ns + m9 ≤ 300)
    (hq : StI (lN t9) w.T.g w.T.ig w.T.pa w.T.he w.T.n w.T.lf w.T.rg m9 w.T.ns w.T.M w.T.P w.T.E w.T.F w.T.cm w.T.gr w.T.gs k9 ns1 M1 P1 E1 F1 cm1 gr1 gs1 ∧ (m9 ≤ k9 ∨ ¬ w_ok (lN t9) w.T.g M1 P1 E1 F1 w.T.n w.T.lf w.T.rg w.T.ig.toInt64 w.T.pa.toInt64 w.T.he.toInt64) ∧ k9 ≤ m9 ∧ ((k9 = 0 ∧ c9 = w.cS ∧ no1 = w.no) ∨ (0 < k9 ∧ c9 = w.cS + 1 ∧ ((no1 (w.cS * 6) = 3 ∧ no1 (w.cS * 6 + 1) = (nI t9) ∧ no1 (w.cS * 6 + 2) = (nI k9) ∧ no1 (w.cS * 6 + 3) = 0 ∧ no1 (w.cS * 6 + 4) = 0 ∧ no1 (w.cS * 6 + 5) = 0) ∧ ∀ j, j < w.cS * 6 → no1 j = w.no j)))) :
    PI (k + 1) (NW.mk ((TB.mk (w.T.g) (w.T.ig) (w.T.pa) (w.T.he) (w.T.n) (w.T.lf) (w.T.rg) (ns1) (M1) (P1) (E1) (F1) (w.T.td) (cm1) (gr1) (gs1))) (c9) (w.gS) (no1) (w.A) (w.cnt) (w.ck) (w.cp) (w.ca) (w.cs) (w.cg) (w.nd) (w.im) (w.fr) (w.lo) (w.op) (w.rs) (w.hd) (w.fl) (w.cv) (w.gt) (w.nh) (w.nf) (w.nc)) := by
  obtain ⟨S, r1, r2, r3⟩ := h
  have ht9 : 1 ≤ (lN t9).toInt ∧ (lN t9).toInt ≤ 400 := by rw [lN_toInt (by omega)]; omega
  obtain ⟨kM, s1, a, b, c, d, e⟩ := chn_ex r1.1.1.1 ht9 r1.S7 m9
  obtain ⟨-, r4⟩ := r1.step hk ht hm9 hns hq ⟨a, b, c, d, e⟩
  have e9 := b.keeps
  refine ⟨s1, r4, r2.chn b, r3.elim Or.inl (fun z => Or.inr ?_)⟩
  rw [e9 313 (by omega), e9 250 (by omega)]
  exact z
theorem PI.reRow {n9 : Nat} {ck9 cp9 ca9 cs9 cg9 : Nat → Int32} (h : PI k w) (h8 : n9 ≤ 8) (hF : FB n9 (fR ck9 cp9 cs9 cg9 ca9)) : PI (k + 1) (NW.mk (w.T) (w.cS) (w.gS) (w.no) (w.A) (n9) (ck9) (cp9) (ca9) (cs9) (cg9) (w.nd) (w.im) (w.fr) (w.lo) (w.op) (w.rs) (w.hd) (w.fl) (w.cv) (w.gt) (w.nh) (w.nf) (w.nc)) := by
  obtain ⟨S, r1, r2, r3⟩ := h
  have hR := rowR (S := S) (w := (NW.mk (w.T) (w.cS) (w.gS) (w.no) (w.A) (n9) (ck9) (cp9) (ca9) (cs9) (cg9) (w.nd) (w.im) (w.fr) (w.lo) (w.op) (w.rs) (w.hd) (w.fl) (w.cv) (w.gt) (w.nh) (w.nf) (w.nc))) h8 hF
  have e0 : ∀ j, j < 210 ∨ 243 ≤ j → rowS S (NW.mk (w.T) (w.cS) (w.gS) (w.no) (w.A) (n9) (ck9) (cp9) (ca9) (cs9) (cg9) (w.nd) (w.im) (w.fr) (w.lo) (w.op) (w.rs) (w.hd) (w.fl) (w.cv) (w.gt) (w.nh) (w.nf) (w.nc)) j = S j := fun j hj => rowS_no hj
  generalize rowS S (NW.mk (w.T) (w.cS) (w.gS) (w.no) (w.A) (n9) (ck9) (cp9) (ca9) (cs9) (cg9) (w.nd) (w.im) (w.fr) (w.lo) (w.op) (w.rs) (w.hd) (w.fl) (w.cv) (w.gt) (w.nh) (w.nf) (w.nc)) = S1 at hR e0
  refine ⟨S1, ⟨RelT.cong r1.1 (fun j hj => e0 j (by omega)), ?_, hR, ?_⟩, r2.cong r1.n32.2 (fun j q1 q2 => e0 j (by omega)), r3.elim Or.inl (fun z => Or.inr ?_)⟩
  · have := RelA.cong r1.2.1 (S1 := S1) (fun j hj => e0 j (by omega)) (Nat.le_succ k)
    exact this
  · have := RelP.cong r1.2.2.2 (S1 := S1) (fun j q1 _ => e0 j (by omega))
    exact this
  · rw [e0 313 (by omega), e0 250 (by omega)]
    exact z
theorem FB.ins {n : Nat} {F : RF} {r : Nat} {x : Nat → Int} (hF : FB n F) (hr : r ≤ n) (hx : FB1 x) : FB (n + 1) (r_ins F r x) := by
  intro j hj
  unfold r_ins
  by_cases q : j < r
  · simp only [if_pos q]; exact hF j (by omega)
  · by_cases q2 : j = r
    · simp only [if_neg q, if_pos q2]
      exact hx
    · simp only [if_neg q, if_neg q2]; exact hF (j - 1) (by omega)
theorem PI.front {kd pl tg : Nat} {sp : Int32} {ck1 cp1 ca1 cs1 cg1 : Nat → Int32} (h : PI k w) (hc : w.cnt < 8) (h1 : kd ≤ 2) (h2 : pl ≤ 100000) (h3 : w_in sp.toInt64 (-900) 900) (h4 : 1 ≤ tg ∧ tg ≤ 900) (hq : Ag (w.cnt + 1) (fR ck1 cp1 cs1 cg1 ca1) (r_ins w.row (r_at w.row (nI pl).toInt w.cnt) (r_new (nI kd).toInt (nI pl).toInt sp.toInt (nI tg).toInt))) :
    PI (k + 1) (NW.mk (w.T) (w.cS) (w.gS) (w.no) (w.A) (w.cnt + 1) (ck1) (cp1) (ca1) (cs1) (cg1) (w.nd) (w.im) (w.fr) (w.lo) (w.op) (w.rs) (w.hd) (w.fl) (w.cv) (w.gt) (w.nh) (w.nf) (w.nc)) := by
  obtain ⟨S, r1, r2, r3⟩ := id h
  have hF := r1.2.2.1.2.2.1
  have hsp : -900 ≤ sp.toInt ∧ sp.toInt ≤ 900 := by
    have q1 := Int64.le_iff_toInt_le.mp h3.1
    have q2 := Int64.le_iff_toInt_le.mp h3.2
    rw [Int32.toInt_toInt64] at q1 q2
    exact ⟨q1, q2⟩
  rw [nI_toInt (by omega), nI_toInt (by omega), nI_toInt (by omega)] at hq
  have hx : FB1 (r_new (kd : Int) (pl : Int) sp.toInt (tg : Int)) := by
    unfold FB1 r_new
    simp only [if_pos, show (1 : Nat) ≠ 0 by decide, show (2 : Nat) ≠ 0 by decide, show (3 : Nat) ≠ 0 by decide, show (2 : Nat) ≠ 1 by decide, show (3 : Nat) ≠ 1 by decide, show (3 : Nat) ≠ 2 by decide, if_false]
    omega
  exact h.reRow (by omega) (FB.cong (FB.ins hF (r_at_le w.row (pl : Int) w.cnt) hx) hq.symm.four)
theorem PI.tick {tt c9 : Nat} {ck1 cp1 ca1 cs1 cg1 : Nat → Int32} (h : PI k w) (hq : TkI (w.cnt, w.row) tt c9 (fR ck1 cp1 cs1 cg1 ca1)) : PI (k + 1) (NW.mk (w.T) (w.cS) (w.gS) (w.no) (w.A) (c9) (ck1) (cp1) (ca1) (cs1) (cg1) (w.nd) (w.im) (w.fr) (w.lo) (w.op) (w.rs) (w.hd) (w.fl) (w.cv) (w.gt) (w.nh) (w.nf) (w.nc)) ∧ c9 ≤ 8 := by
  obtain ⟨S, r1, r2, r3⟩ := id h
  have hR := r1.2.2.1
  have hb := hq.bd hR.2.2.1 hR.2.1
  exact ⟨h.reRow hb.1 hb.2, hb.1⟩
theorem PI.newpipe {re im fr lo hd9 : Nat} {fl9 : Int32} {hd1 fl1 cv1 gt1 : Nat → Int64} (h : PI k w) (h1 : 1 ≤ re ∧ re ≤ 20) (h2 : 1 ≤ im ∧ im ≤ 50) (h3 : fr ≤ 20) (h4 : 1 ≤ lo ∧ lo ≤ 50) (h5 : hd9 ≤ 2000) (h6 : w_in fl9.toInt64 (-100) 100) (hq : ∀ j, j ≤ re → hd1 j = lN hd9 ∧ fl1 j = fl9.toInt64 ∧ cv1 j = 0 ∧ gt1 j = lN hd9) :
    PI (k + 1) (NW.mk (w.T) (w.cS) (w.gS) (w.no) (w.A) (w.cnt) (w.ck) (w.cp) (w.ca) (w.cs) (w.cg) (re + 1) (im) (fr) (lo) (100) (hd9) (hd1) (fl1) (cv1) (gt1) (w.nh) (w.nf) (w.nc)) := by
  obtain ⟨S, r1, r2, r3⟩ := h
  have hm := pipS_ok S re im fr lo hd9 fl9
  refine ⟨_, r1.newpipe h1 h2 h3 h4 h5 h6 hq hm, r2.cong r1.n32.2 (fun j q1 q2 => hm.2.2.2.2.2.2.2.2 j (by omega)), Or.inr ?_⟩
  obtain ⟨q1, -, -, q2⟩ := hm.2.2.2.2.2.2.2.1 0 (by omega)
  rw [show pipS S re im fr lo hd9 fl9 313 = _ from q2, show pipS S re im fr lo hd9 fl9 250 = _ from q1]
  exact Int64.lt_irrefl
theorem PI.valve {o9 : Nat} (h : PI k w) (ho : o9 ≤ 100) (hn : ¬ w.nd = 0) : PI (k + 1) (NW.mk (w.T) (w.cS) (w.gS) (w.no) (w.A) (w.cnt) (w.ck) (w.cp) (w.ca) (w.cs) (w.cg) (w.nd) (w.im) (w.fr) (w.lo) (o9) (w.rs) (w.hd) (w.fl) (w.cv) (w.gt) (w.nh) (w.nf) (w.nc)) := by
  obtain ⟨S, r1, r2, r3⟩ := h
  obtain ⟨la, hla, -, -, -, -, hp⟩ := r1.pipe hn
  refine ⟨_, r1.valve ho hla hp rfl, r2.cong r1.n32.2 (fun j q1 q2 => pk_uLn (by omega)), r3.elim Or.inl (fun z => Or.inr ?_)⟩
  rw [pk_uLn (by omega), pk_uLn (by omega)]
  exact z
theorem PI.flow {la tk k9 : Nat} {hd1 fl1 cv1 gt1 nh1 nf1 nc1 : Nat → Int64} (h : PI k w) (hn : w.nd = la + 1)
    (hq : PtI la w.im w.fr w.lo w.op w.rs tk w.hd w.fl w.cv w.gt k9 hd1 fl1 cv1 gt1 ∧ (tk ≤ k9 ∨ ¬ p_ok hd1 fl1 cv1 (lN w.im) (lN w.fr) (lN w.lo) (lN w.rs) (lN w.op) la) ∧ k9 ≤ tk) :
    PI (k + 1) (NW.mk (w.T) (w.cS) (w.gS) (w.no) (w.A) (w.cnt) (w.ck) (w.cp) (w.ca) (w.cs) (w.cg) (w.nd) (w.im) (w.fr) (w.lo) (w.op) (w.rs) (hd1) (fl1) (cv1) (gt1) (nh1) (nf1) (nc1)) := by
  obtain ⟨S, r1, r2, r3⟩ := h
  obtain ⟨la2, hla, -, -, -, -, hp⟩ := r1.pipe (by omega)
  obtain rfl : la2 = la := by omega
  obtain ⟨kM, s1, a, b, c, d, e⟩ := pchn_ex hp.1 (r3.elim (fun z => absurd z (by omega)) id) tk
  obtain ⟨-, r4⟩ := r1.flow (nh1 := nh1) (nf1 := nf1) (nc1 := nc1) hla hp hq ⟨a, b, c, d⟩
  exact ⟨s1, r4, r2.cong r1.n32.2 (fun j q1 q2 => b.keeps j (by omega)), Or.inr e⟩
theorem PI.like {w1 : NW} (h : PI k w) (hl : NW.like w w1) : PI k w1 := by
  obtain ⟨S, r1, r2, r3⟩ := h
  refine ⟨S, r1.like hl, ?_, r3.elim (fun z => Or.inl (hl.2.2.2.2.1.1.trans z)) Or.inr⟩
  rw [hl.1.1.2.2.2.2.1]
  exact r2
end PIk
/-! what the law asks -/
section PIv
variable {S : Nat → Int64} {w : NW} {k : Nat}
theorem Rel.told (h : Rel S w k) {j : Nat} (hj : j < 4) : w.T.td j = S (142 + j) := h.1.2.2.1 j hj
theorem Rel.story (h : Rel S w k) : SI w.A.n w.A.lf w.A.rg w.cS w.gS w.no S w.A.g w.A.ig w.A.pa w.A.he w.A.M w.A.P w.A.E w.A.F := by
  obtain ⟨a1, ⟨a2, a3, a4⟩, -⟩ := h.2.1
  rw [a2, a3, a4]
  exact a1
theorem Rel.An (h : Rel S w k) {c : Nat} (hc : c < w.T.n) : c < w.A.n := by rw [h.2.1.2.1.1]; exact hc
theorem Rel.kp_0 (h : Rel S w k) (hK : KEPT S w.T.n) : w_sum w.T.M w.T.n = (w.T.td 0 + w.T.cm 0 + 0) := by
  rw [h.v_kept.1, h.told (j := 0) (by omega), h.v_came (j := 0) (by omega)]; exact hK.1
theorem Rel.kp_1 (h : Rel S w k) (hK : KEPT S w.T.n) : w_sum w.T.P w.T.n = (w.T.td 1 + w.T.cm 1 + 0) := by
  rw [h.v_kept.2.1, h.told (j := 1) (by omega), h.v_came (j := 1) (by omega)]; exact hK.2.1
theorem Rel.kp_2 (h : Rel S w k) (hK : KEPT S w.T.n) : w_sum w.T.E w.T.n = (w.T.td 2 + w.T.cm 2 + w.T.cm 4) := by
  rw [h.v_kept.2.2.1, h.told (j := 2) (by omega), h.v_came (j := 2) (by omega), h.v_came (j := 4) (by omega)]; exact hK.2.2.1
theorem Rel.kp_3 (h : Rel S w k) (hK : KEPT S w.T.n) : w_sum w.T.F w.T.n = (w.T.td 3 + w.T.cm 3 + -w.T.cm 5) := by
  rw [h.v_kept.2.2.2, h.told (j := 3) (by omega), h.v_came (j := 3) (by omega), h.v_came (j := 5) (by omega)]; exact hK.2.2.2
theorem gr_toInt {v : Int64} (h : -2147483648 ≤ v.toInt) (h2 : v.toInt ≤ 2147483647) : (w_gr v).toInt = v.toInt := by
  rw [gr_small h2, Int64.toInt_toInt32]
  exact fb_bmod h (by omega)
theorem gr_top {u v : Int64} (h0 : -2147483648 ≤ u.toInt) (h1 : u.toInt ≤ 2147483647) (h : ¬ v < u) : ¬ w_gr v < w_gr u := by
  rw [Int64.lt_iff_toInt_lt] at h
  rw [Int32.lt_iff_toInt_lt, gr_toInt h0 h1]
  by_cases q : v.toInt ≤ 2147483647
  · rw [gr_toInt (by omega) q]; omega
  · have e : (2147483647 : Int64) < v := Int64.lt_iff_toInt_lt.mpr (by
      have : (2147483647 : Int64).toInt = 2147483647 := by decide
      omega)
    unfold w_gr
    rw [if_pos e]
    have : (2147483647 : Int32).toInt = 2147483647 := by decide
    omega
theorem gr_nn {v : Int64} (h0 : 0 ≤ v.toInt) (h1 : v.toInt ≤ 2147483647) : ¬ w_gr v < 0 := by
  rw [Int32.lt_iff_toInt_lt, gr_toInt (by omega) h1]
  have : (0 : Int32).toInt = 0 := by decide
  omega
theorem gr_le {u v : Int64} (h0 : 0 ≤ u.toInt) (h1 : u.toInt ≤ v.toInt) (h2 : v.toInt ≤ 2147483647) : ¬ w_gr v < w_gr u := by
  rw [Int32.lt_iff_toInt_lt, gr_toInt (v := v) (by omega) h2, gr_toInt (v := u) (by omega) (by omega)]
  omega
theorem Rel.q_fuel (h : Rel S w k) {c : Nat} (hc : c < w.T.n) : ¬ w_gr (w.T.F c) < 0 ∧ ¬ w_gr (w.T.M c) < w_gr (w.T.F c) ∧ ¬ w_gr (w_pr w.T.g w.T.M w.T.P w.T.E c) < 0 := by
  have ho := h.okc c hc
  obtain ⟨⟨h1, h2⟩, -, -, -, h5, h6⟩ := id ho
  have hp := ho.pr h.S0.2
  exact ⟨gr_nn h5 (by omega), gr_le h5 h6 (by omega), gr_nn hp.1 (by omega)⟩
theorem Rel.q_node (h : Rel S w k) (hn : ¬ w.nd = 0) (h9 : w.nd = 0 ∨ ¬ S 313 < S 250) : ¬ w_gr (w.gt 0) < w_gr (w.hd 0) := by
  obtain ⟨la, hla, -, -, -, -, hp⟩ := h.pipe hn
  obtain ⟨q1, -, -, q4⟩ := h.v_node (c := 0) (by omega)
  have hb := (hp.1.2.2.2.2.2.2.2 0 (Nat.zero_le _)).1
  have a1 := Int64.le_iff_toInt_le.mp hb.1
  have a2 := Int64.le_iff_toInt_le.mp hb.2
  have e1 : (-1000000 : Int64).toInt = -1000000 := by decide
  have e2 : (1000000 : Int64).toInt = 1000000 := by decide
  rw [q1, q4]
  exact gr_top (by omega) (by omega) (h9.elim (fun z => absurd z hn) id)
theorem mom_in {r K : Nat} {a : Int32} (ha : a = nI K) (hK : K ≤ 1000) (hr : r ≤ 2 * K) : -(K : Int) ≤ (nI r - a).toInt ∧ (nI r - a).toInt ≤ K := by
  subst ha
  rw [pk_sub_toInt (by omega) (by omega)]
  omega
theorem mom_w {r K : Nat} {a : Int32} {lo hi : Int64} (ha : a = nI K) (hK : K ≤ 1000) (hr : r ≤ 2 * K) (hlo : lo.toInt ≤ -(K : Int)) (hhi : (K : Int) ≤ hi.toInt) : w_in (nI r - a).toInt64 lo hi := by
  have h := mom_in ha hK hr
  constructor
  · rw [Int64.le_iff_toInt_le, Int32.toInt_toInt64]; omega
  · rw [Int64.le_iff_toInt_le, Int32.toInt_toInt64]; omega
theorem cell_within {ma en : Nat} {p : Int64} (h1 : 200 ≤ ma ∧ ma ≤ 1000000) (h2 : -1000 ≤ p.toInt ∧ p.toInt ≤ 1000) (h3 : 6000 ≤ en ∧ en ≤ 1000000000) : 0 ≤ (w_within (lN ma) p (lN en)).toInt := by
  have e2 : (2 * lN ma).toInt = 2 * (ma : Int) := by
    rw [show (2 : Int64) = lN 2 from rfl, lN_mul, pk_lT (by omega)]
    omega
  have hb : p.toInt * p.toInt ≤ 1000 * 1000 := by
    rcases Int.lt_or_le p.toInt 0 with z | z
    · have := Int.mul_le_mul (show -p.toInt ≤ 1000 by omega) (show -p.toInt ≤ 1000 by omega) (by omega) (by omega)
      rw [Int.neg_mul_neg] at this
      exact this
    · exact Int.mul_le_mul h2.2 h2.2 z (by omega)
  have h0 : 0 ≤ p.toInt * p.toInt := by
    rcases Int.lt_or_le p.toInt 0 with z | z
    · have := Int.mul_nonneg (show 0 ≤ -p.toInt by omega) (show 0 ≤ -p.toInt by omega)
      rw [Int.neg_mul_neg] at this
      exact this
    · exact Int.mul_nonneg z z
  have ep : (p * p).toInt = p.toInt * p.toInt := fb_mulL (by omega) (by omega)
  have ef : (fd (p * p) (2 * lN ma)).toInt = p.toInt * p.toInt / (2 * (ma : Int)) := by
    rw [fd_toInt (by rw [e2]; omega), ep, e2]
  have d0 : 0 ≤ p.toInt * p.toInt / (2 * (ma : Int)) := Int.ediv_nonneg h0 (by omega)
  have d1 : p.toInt * p.toInt / (2 * (ma : Int)) ≤ 2500 := Int.ediv_le_of_le_mul (by omega) (by omega)
  unfold w_within
  rw [fb_subL (by rw [ef, lN_toInt (by omega)]; omega) (by rw [ef, lN_toInt (by omega)]; omega), ef, lN_toInt (by omega)]
  omega
end PIv

