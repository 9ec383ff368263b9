theorem va_outP {D : va_G} {cl : List vw_C} {L za Z zb : va_W} {H : Heap} (h : va_P D cl (L ++ (za ++ (Z ++ zb))) H) : va_P D cl ((L ++ Z) ++ (zb ++ za)) H := by
  have h1 : va_P D cl ((L ++ za) ++ (Z ++ zb)) H := by rw [List.append_assoc]; exact h
  have h2 := h1.swap
  rw [← List.append_assoc L Z zb, List.append_assoc (L ++ Z) zb za] at h2
  exact h2
theorem va_outD {A : Nat → Prop} {L za Z zb : va_W} (h : va_D A (L ++ (za ++ (Z ++ zb)))) : va_D A ((L ++ Z) ++ (zb ++ za)) := by
  have h1 : va_D A ((L ++ za) ++ (Z ++ zb)) := by rw [List.append_assoc]; exact h
  have h2 := h1.swap
  rw [← List.append_assoc L Z zb, List.append_assoc (L ++ Z) zb za] at h2
  exact h2
theorem va_inP {D : va_G} {cl : List vw_C} {L za Z zb : va_W} {H : Heap} (h : va_P D cl ((L ++ Z) ++ (zb ++ za)) H) : va_P D cl (L ++ (za ++ (Z ++ zb))) H := by
  have h1 : va_P D cl ((L ++ (Z ++ zb)) ++ za) H := by rw [← List.append_assoc L Z zb, List.append_assoc (L ++ Z) zb za]; exact h
  have h2 := h1.swap
  rw [List.append_assoc] at h2
  exact h2
theorem va_inD {A : Nat → Prop} {L za Z zb : va_W} (h : va_D A ((L ++ Z) ++ (zb ++ za))) : va_D A (L ++ (za ++ (Z ++ zb))) := by
  have h1 : va_D A ((L ++ (Z ++ zb)) ++ za) := by rw [← List.append_assoc L Z zb, List.append_assoc (L ++ Z) zb za]; exact h
  have h2 := h1.swap
  rw [List.append_assoc] at h2
  exact h2
def slU (sl : Nat → Option (SD × NW)) (j9 : Nat) (v : Option (SD × NW)) : Nat → Option (SD × NW) := fun j => if j = j9 then v else sl j
def zsl (ct : Nat → ClassId) : Option (SD × NW) → va_W
  | none => []
  | some q => slotW ct q.1 q.2
def zsW (ct : Nat → ClassId) (sl : Nat → Option (SD × NW)) : va_W := zsl ct (sl 0) ++ (zsl ct (sl 1) ++ (zsl ct (sl 2) ++ zsl ct (sl 3)))
theorem zsplit (ct : Nat → ClassId) (sl : Nat → Option (SD × NW)) {j9 : Nat} (h : j9 < 4) : ∃ za zb, zsW ct sl = za ++ (zsl ct (sl j9) ++ zb) ∧ ∀ v, zsW ct (slU sl j9 v) = za ++ (zsl ct v ++ zb) := by
  rcases (show j9 = 0 ∨ j9 = 1 ∨ j9 = 2 ∨ j9 = 3 by omega) with rfl | rfl | rfl | rfl
  · exact ⟨[], zsl ct (sl 1) ++ (zsl ct (sl 2) ++ zsl ct (sl 3)), rfl, fun v => rfl⟩
  · exact ⟨zsl ct (sl 0), zsl ct (sl 2) ++ zsl ct (sl 3), rfl, fun v => rfl⟩
  · refine ⟨zsl ct (sl 0) ++ zsl ct (sl 1), zsl ct (sl 3), ?_, fun v => ?_⟩
    · unfold zsW; rw [List.append_assoc]
    · show zsl ct (sl 0) ++ (zsl ct (sl 1) ++ (zsl ct v ++ zsl ct (sl 3))) = _; rw [List.append_assoc]
  · refine ⟨zsl ct (sl 0) ++ (zsl ct (sl 1) ++ zsl ct (sl 2)), [], ?_, fun v => ?_⟩
    · unfold zsW; rw [List.append_nil, List.append_assoc, List.append_assoc]
    · show zsl ct (sl 0) ++ (zsl ct (sl 1) ++ (zsl ct (sl 2) ++ zsl ct v)) = _; rw [List.append_nil, List.append_assoc, List.append_assoc]

/-- the law's world -/
def ST (D : va_G) (ct : Nat → ClassId) (A : Nat → Prop) (s : State) (a : AD) (w : NW) (x : SC) (sl : Nat → Option (SD × NW)) (H : Heap) (locs : List Loc) : Prop := va_P D classes (lawW ct a w x ++ zsW ct sl) H ∧ va_D A (lawW ct a w x ++ zsW ct sl) ∧ va_S A s.heap H locs
/-- the slots -/
def InvK (x : SC) (sl : Nat → Option (SD × NW)) : Prop := ∀ j, j < 4 → (sl j = none ∧ x.kf j = none) ∨ ∃ d w1, sl j = some (d, w1) ∧ x.kf j = some (d.ob 0)
theorem InvK.same {x x1 : SC} {sl : Nat → Option (SD × NW)} (h : InvK x sl) (e : x1.kf = x.kf) : InvK x1 sl := fun j hj => by rw [e]; exact h j hj
theorem InvK.put {x x1 : SC} {sl : Nat → Option (SD × NW)} {j9 : Nat} {d : SD} {w1 : NW} (h : InvK x sl) (e1 : x1.kf j9 = some (d.ob 0)) (e2 : ∀ j, j ≠ j9 → x1.kf j = x.kf j) : InvK x1 (slU sl j9 (some (d, w1))) := fun j hj => by
  by_cases q : j = j9
  · subst q
    exact Or.inr ⟨d, w1, if_pos rfl, e1⟩
  · have eq : slU sl j9 (some (d, w1)) j = sl j := if_neg q
    rw [eq, e2 j q]
    exact h j hj
set_option maxHeartbeats 1000000 in
set_option maxRecDepth 100000 in
theorem u_shape {p : Program} {e : Env} {R : Room} {s : State} {m : MethodId} {below : List Frame} {meth : Method} {c : Code} {H : Heap} {locs : List Loc} {cells slots : Nat} {Q : State → Prop} {ls : Array Slot} {A : Nat → Prop} {a0 : Cond} {pc : Nat} {rest : List Value} (l : Launch) (D : va_G) (ct : Nat → ClassId) (st : Nat → Nat) {b9 L9 : Nat} {xs : Nat → Int32} (C0 : LX p l R s m c b9 L9 xs D ct st A a0) (a : AD) {w : NW} {x : SC} {sl : Nat → Option (SD × NW)} {k : Nat} (hI : PI k w) (hk : k < 512) (na lf9 rg9 : Nat) (h1 : 2 ≤ na ∧ na ≤ 32) (h2 : lf9 ≤ 1) (h3 : rg9 ≤ 1) (hro : cells ≤ R.cells ∧ slots ≤ R.slots) (hT : ST D ct A s a w x sl H locs) (hsz : ls.size = 13) (hcat : (rest.map fun v => v.category).sum ≤ 8) (hdg : decode code pc = .ok (.invokevirtual 21, 3))
    (kk : ∀ (w1 : NW) (H1 : Heap) (locs1 : List Loc), PI (k + 1) w1 → (w1.T.n = na ∧ w1.nd = w.nd ∧ w1.cnt = w.cnt) → ST D ct A s a w1 x sl H1 locs1 → W p l e R s m #[Value.ref b9] below meth c H1 locs1 cells slots Q (F0 m (pc + 3) ls (rest)))
    : W p l e R s m #[Value.ref b9] below meth c H locs cells slots Q (F0 m pc ls (.int (nI rg9) :: .int (nI lf9) :: .int (nI na) :: .ref (a.wa 0) :: rest)) := by
  exact v_shape_ok l D ct st C0 a w x na lf9 rg9 h1 h2 h3 hro hT.1 hT.2.1 hT.2.2 hsz hcat hdg (fun mM1 mP1 mE1 mF1 td1 cm1 gr1 gs1 H1 locs1 hq hP1 hD1 hS1 => kk ((NW.mk ((TB.mk (w.T.g) (w.T.ig) (w.T.pa) (w.T.he) (na) (lf9) (rg9) (0) (mM1) (mP1) (mE1) (mF1) (td1) (cm1) (gr1) (gs1))) (0) (0) (w.no) ((TB.mk (w.T.g) (w.T.ig) (w.T.pa) (w.T.he) (na) (lf9) (rg9) (0) ((fun j => if j < 32 then mM1 j else w.A.M j)) ((fun j => if j < 32 then mP1 j else w.A.P j)) ((fun j => if j < 32 then mE1 j else w.A.E j)) ((fun j => if j < 32 then mF1 j else w.A.F j)) ((fun j => if j < 4 then td1 j else w.A.td j)) ((fun j => if j < 6 then cm1 j else w.A.cm j)) ((fun j => if j < 32 then gr1 j else w.A.gr j)) ((fun j => if j < 32 then gs1 j else w.A.gs j)))) (w.cnt) (w.ck) (w.cp) (w.ca) (w.cs) (w.cg) (w.nd) (w.im) (w.fr) (w.lo) (w.op) (w.rs) (w.hd) (w.fl) (w.cv) (w.gt) (w.nh) (w.nf) (w.nc))) H1 locs1 (hI.shape h1 h2 h3 hq ⟨rfl, rfl, rfl, rfl, rfl, rfl, rfl, fun j hj => ⟨if_pos hj, if_pos hj, if_pos hj, if_pos hj⟩⟩) ⟨rfl, rfl, rfl⟩ ⟨hP1, hD1, hS1⟩)
set_option maxHeartbeats 1000000 in
set_option maxRecDepth 100000 in
theorem u_gas {p : Program} {e : Env} {R : Room} {s : State} {m : MethodId} {below : List Frame} {meth : Method} {c : Code} {H : Heap} {locs : List Loc} {cells slots : Nat} {Q : State → Prop} {ls : Array Slot} {A : Nat → Prop} {a0 : Cond} {pc : Nat} {rest : List Value} (l : Launch) (D : va_G) (ct : Nat → ClassId) (st : Nat → Nat) {b9 L9 : Nat} {xs : Nat → Int32} (C0 : LX p l R s m c b9 L9 xs D ct st A a0) (a : AD) {w : NW} {x : SC} {sl : Nat → Option (SD × NW)} {k : Nat} (hI : PI k w) (hk : k < 512) (g9 : Nat) (h1 : g9 < 3) (hro : cells ≤ R.cells ∧ slots ≤ R.slots) (hT : ST D ct A s a w x sl H locs) (hsz : ls.size = 13) (hcat : (rest.map fun v => v.category).sum ≤ 8) (hdg : decode code pc = .ok (.invokevirtual 25, 3))
    (kk : ∀ (w1 : NW) (H1 : Heap) (locs1 : List Loc), PI (k + 1) w1 → (w1.T.n = w.T.n ∧ w1.nd = w.nd ∧ w1.cnt = w.cnt) → ST D ct A s a w1 x sl H1 locs1 → W p l e R s m #[Value.ref b9] below meth c H1 locs1 cells slots Q (F0 m (pc + 3) ls (rest)))
    : W p l e R s m #[Value.ref b9] below meth c H locs cells slots Q (F0 m pc ls (.int (nI g9) :: .ref (a.wa 0) :: rest)) := by
  obtain ⟨S, hR, hK, hTop⟩ := id hI
  have h32 := hR.n32
  have hcS := hR.2.1.2.2
  exact v_gas_ok l D ct st C0 a w x g9 h1 (by omega) hro hT.1 hT.2.1 hT.2.2 hsz hcat hdg (fun no1 H1 locs1 hq hP1 hD1 hS1 => kk ((NW.mk ((TB.mk (g9) (w.T.ig) (w.T.pa) (w.T.he) (w.T.n) (w.T.lf) (w.T.rg) (w.T.ns) (w.T.M) (w.T.P) (w.T.E) (w.T.F) (w.T.td) (w.T.cm) (w.T.gr) (w.T.gs))) (w.cS + 1) (w.gS) (no1) (w.A) (w.cnt) (w.ck) (w.cp) (w.ca) (w.cs) (w.cg) (w.nd) (w.im) (w.fr) (w.lo) (w.op) (w.rs) (w.hd) (w.fl) (w.cv) (w.gt) (w.nh) (w.nf) (w.nc))) H1 locs1 (hI.gas hk h1 hq) ⟨rfl, rfl, rfl⟩ ⟨hP1, hD1, hS1⟩)
set_option maxHeartbeats 1000000 in
set_option maxRecDepth 100000 in
theorem u_ignition {p : Program} {e : Env} {R : Room} {s : State} {m : MethodId} {below : List Frame} {meth : Method} {c : Code} {H : Heap} {locs : List Loc} {cells slots : Nat} {Q : State → Prop} {ls : Array Slot} {A : Nat → Prop} {a0 : Cond} {pc : Nat} {rest : List Value} (l : Launch) (D : va_G) (ct : Nat → ClassId) (st : Nat → Nat) {b9 L9 : Nat} {xs : Nat → Int32} (C0 : LX p l R s m c b9 L9 xs D ct st A a0) (a : AD) {w : NW} {x : SC} {sl : Nat → Option (SD × NW)} {k : Nat} (hI : PI k w) (hk : k < 512) (te pa9 he9 : Nat) (h1 : te ≤ 100000) (h2 : pa9 ≤ 100) (h3 : he9 ≤ 1000) (hro : cells ≤ R.cells ∧ slots ≤ R.slots) (hT : ST D ct A s a w x sl H locs) (hsz : ls.size = 13) (hcat : (rest.map fun v => v.category).sum ≤ 8) (hdg : decode code pc = .ok (.invokevirtual 29, 3))
    (kk : ∀ (w1 : NW) (H1 : Heap) (locs1 : List Loc), PI (k + 1) w1 → (w1.T.n = w.T.n ∧ w1.nd = w.nd ∧ w1.cnt = w.cnt) → ST D ct A s a w1 x sl H1 locs1 → W p l e R s m #[Value.ref b9] below meth c H1 locs1 cells slots Q (F0 m (pc + 3) ls (rest)))
    : W p l e R s m #[Value.ref b9] below meth c H locs cells slots Q (F0 m pc ls (.int (nI he9) :: .int (nI pa9) :: .int (nI te) :: .ref (a.wa 0) :: rest)) := by
  obtain ⟨S, hR, hK, hTop⟩ := id hI
  have h32 := hR.n32
  have hcS := hR.2.1.2.2
  exact v_ignition_ok l D ct st C0 a w x te pa9 he9 h1 h2 h3 (by omega) hro hT.1 hT.2.1 hT.2.2 hsz hcat hdg (fun no1 H1 locs1 hq hP1 hD1 hS1 => kk ((NW.mk ((TB.mk (w.T.g) ((nI te)) ((nI pa9)) ((nI he9)) (w.T.n) (w.T.lf) (w.T.rg) (w.T.ns) (w.T.M) (w.T.P) (w.T.E) (w.T.F) (w.T.td) (w.T.cm) (w.T.gr) (w.T.gs))) (w.cS + 1) (w.gS) (no1) (w.A) (w.cnt) (w.ck) (w.cp) (w.ca) (w.cs) (w.cg) (w.nd) (w.im) (w.fr) (w.lo) (w.op) (w.rs) (w.hd) (w.fl) (w.cv) (w.gt) (w.nh) (w.nf) (w.nc))) H1 locs1 (hI.ignition hk h1 h2 h3 hq) ⟨rfl, rfl, rfl⟩ ⟨hP1, hD1, hS1⟩)
set_option maxHeartbeats 1000000 in
set_option maxRecDepth 100000 in
theorem u_cell {p : Program} {e : Env} {R : Room} {s : State} {m : MethodId} {below : List Frame} {meth : Method} {c : Code} {H : Heap} {locs : List Loc} {cells slots : Nat} {Q : State → Prop} {ls : Array Slot} {A : Nat → Prop} {a0 : Cond} {pc : Nat} {rest : List Value} (l : Launch) (D : va_G) (ct : Nat → ClassId) (st : Nat → Nat) {b9 L9 : Nat} {xs : Nat → Int32} (C0 : LX p l R s m c b9 L9 xs D ct st A a0) (a : AD) {w : NW} {x : SC} {sl : Nat → Option (SD × NW)} {k : Nat} (hI : PI k w) (hk : k < 512) (c9 ma en fu : Nat) (po : Int32) (hc : c9 < w.T.n) (hma : 200 ≤ ma ∧ ma ≤ 1000000) (hpo : -1000 ≤ po.toInt ∧ po.toInt ≤ 1000) (hen : 6000 ≤ en ∧ en ≤ 1000000000) (hfu : fu ≤ ma) (hro : cells ≤ R.cells ∧ slots ≤ R.slots) (hT : ST D ct A s a w x sl H locs) (hsz : ls.size = 13) (hcat : (rest.map fun v => v.category).sum ≤ 8) (hdg : decode code pc = .ok (.invokevirtual 36, 3))
    (kk : ∀ (w1 : NW) (H1 : Heap) (locs1 : List Loc), PI (k + 1) w1 → (w1.T.n = w.T.n ∧ w1.nd = w.nd ∧ w1.cnt = w.cnt) → ST D ct A s a w1 x sl H1 locs1 → W p l e R s m #[Value.ref b9] below meth c H1 locs1 cells slots Q (F0 m (pc + 3) ls (rest)))
    : W p l e R s m #[Value.ref b9] below meth c H locs cells slots Q (F0 m pc ls (.int (nI fu) :: .int (nI en) :: .int po :: .int (nI ma) :: .int (nI c9) :: .ref (a.wa 0) :: rest)) := by
  obtain ⟨S, hR, hK, hTop⟩ := id hI
  have h32 := hR.n32
  have hcS := hR.2.1.2.2
  have hw : w_in po.toInt64 (-10000000) 10000000 := by
    have e1 : (-10000000 : Int64).toInt = -10000000 := by decide
    have e2 : (10000000 : Int64).toInt = 10000000 := by decide
    constructor
    · rw [Int64.le_iff_toInt_le, Int32.toInt_toInt64]; omega
    · rw [Int64.le_iff_toInt_le, Int32.toInt_toInt64]; omega
  have hwi : 0 ≤ (w_within (lN ma) po.toInt64 (lN en)).toInt := cell_within hma (by rw [Int32.toInt_toInt64]; exact hpo) hen
  have hma1 : 1 ≤ ma ∧ ma ≤ 1000000 := ⟨by omega, hma.2⟩
  exact v_cell_ok l D ct st C0 a w x c9 ma po en fu h32.2 hc hma1 hw hen.2 hfu hwi (by omega) hro hT.1 hT.2.1 hT.2.2 hsz hcat hdg (fun mM1 mP1 mE1 mF1 td1 no1 H1 locs1 hq hP1 hD1 hS1 => kk ((NW.mk ((TB.mk (w.T.g) (w.T.ig) (w.T.pa) (w.T.he) (w.T.n) (w.T.lf) (w.T.rg) (w.T.ns) (mM1) (mP1) (mE1) (mF1) (td1) (w.T.cm) (w.T.gr) (w.T.gs))) (w.cS + 1) (w.gS) (no1) (w.A) (w.cnt) (w.ck) (w.cp) (w.ca) (w.cs) (w.cg) (w.nd) (w.im) (w.fr) (w.lo) (w.op) (w.rs) (w.hd) (w.fl) (w.cv) (w.gt) (w.nh) (w.nf) (w.nc))) H1 locs1 (hI.cell hk hc hma1 hw hen.2 hfu hwi hq) ⟨rfl, rfl, rfl⟩ ⟨hP1, hD1, hS1⟩)
set_option maxHeartbeats 1000000 in
set_option maxRecDepth 100000 in
theorem u_step {p : Program} {e : Env} {R : Room} {s : State} {m : MethodId} {below : List Frame} {meth : Method} {c : Code} {H : Heap} {locs : List Loc} {cells slots : Nat} {Q : State → Prop} {ls : Array Slot} {A : Nat → Prop} {a0 : Cond} {pc : Nat} {rest : List Value} (l : Launch) (D : va_G) (ct : Nat → ClassId) (st : Nat → Nat) {b9 L9 : Nat} {xs : Nat → Int32} (C0 : LX p l R s m c b9 L9 xs D ct st A a0) (a : AD) {w : NW} {x : SC} {sl : Nat → Option (SD × NW)} {k : Nat} (hI : PI k w) (hk : k < 512) (t9 m9 : Nat) (ht : 1 ≤ t9 ∧ t9 ≤ 400) (hm : 1 ≤ m9 ∧ m9 ≤ 50) (hns : w.T.ns + m9 ≤ 300) (hro : cells ≤ R.cells ∧ slots ≤ R.slots) (hT : ST D ct A s a w x sl H locs) (hsz : ls.size = 13) (hcat : (rest.map fun v => v.category).sum ≤ 8) (hdg : decode code pc = .ok (.invokevirtual 43, 3))
    (kk : ∀ (w1 : NW) (x1 : SC) (k9 : Nat) (H1 : Heap) (locs1 : List Loc), PI (k + 1) w1 → (w1.T.n = w.T.n ∧ w1.nd = w.nd ∧ w1.cnt = w.cnt) → (w1.T.ns = w.T.ns + k9 ∧ k9 ≤ m9 ∧ x1.kf = x.kf) → ST D ct A s a w1 x1 sl H1 locs1 → W p l e R s m #[Value.ref b9] below meth c H1 locs1 cells slots Q (F0 m (pc + 3) ls (.int (nI k9) :: rest)))
    : W p l e R s m #[Value.ref b9] below meth c H locs cells slots Q (F0 m pc ls (.int (nI m9) :: .int (nI t9) :: .ref (a.wa 0) :: rest)) := by
  obtain ⟨S, hR, hK, hTop⟩ := id hI
  have h32 := hR.n32
  have hcS := hR.2.1.2.2
  exact v_step_ok l D ct st C0 a w x t9 m9 hR.S0.2 h32.1 h32.2 hR.1.1.1.2.2.2.2.1.1 hR.1.1.1.2.2.2.2.2.1.1 hR.okc hR.1.1.rng.1 hR.1.1.rng.2 ht hm hns (by omega) hro hT.1 hT.2.1 hT.2.2 hsz hcat hdg (fun ns1 c9 k9 mM1 mP1 mE1 mF1 cm1 gr1 gs1 no1 vs1 vo1 k01 k11 k21 pa91 o01 o11 o21 o31 x01 x11 x21 x31 pb1 bq1 H1 locs1 hq hP1 hD1 hS1 => kk ((NW.mk ((TB.mk (w.T.g) (w.T.ig) (w.T.pa) (w.T.he) (w.T.n) (w.T.lf) (w.T.rg) (ns1) (mM1) (mP1) (mE1) (mF1) (w.T.td) (cm1) (gr1) (gs1))) (c9) (w.gS) (no1) (w.A) (w.cnt) (w.ck) (w.cp) (w.ca) (w.cs) (w.cg) (w.nd) (w.im) (w.fr) (w.lo) (w.op) (w.rs) (w.hd) (w.fl) (w.cv) (w.gt) (w.nh) (w.nf) (w.nc))) ((SC.mk (bq1) (vs1) (vo1) (k01) (k11) (k21) (pa91) (o01) (o11) (o21) (o31) (x01) (x11) (x21) (x31) (pb1) (x.kf))) k9 H1 locs1 (hI.step hk ht hm hns hq) ⟨rfl, rfl, rfl⟩ ⟨hq.1.2.1, hq.2.2.1, rfl⟩ ⟨hP1, hD1, hS1⟩)
set_option maxHeartbeats 1000000 in
set_option maxRecDepth 100000 in
theorem u_front {p : Program} {e : Env} {R : Room} {s : State} {m : MethodId} {below : List Frame} {meth : Method} {c : Code} {H : Heap} {locs : List Loc} {cells slots : Nat} {Q : State → Prop} {ls : Array Slot} {A : Nat → Prop} {a0 : Cond} {pc : Nat} {rest : List Value} (l : Launch) (D : va_G) (ct : Nat → ClassId) (st : Nat → Nat) {b9 L9 : Nat} {xs : Nat → Int32} (C0 : LX p l R s m c b9 L9 xs D ct st A a0) (a : AD) {w : NW} {x : SC} {sl : Nat → Option (SD × NW)} {k : Nat} (hI : PI k w) (hk : k < 512) (kd pl tg : Nat) (sp : Int32) (hc : w.cnt < 8) (h1 : kd ≤ 2) (h2 : pl ≤ 100000) (h3 : w_in sp.toInt64 (-900) 900) (h4 : 1 ≤ tg ∧ tg ≤ 900) (hro : cells ≤ R.cells ∧ slots ≤ R.slots) (hT : ST D ct A s a w x sl H locs) (hsz : ls.size = 13) (hcat : (rest.map fun v => v.category).sum ≤ 8) (hdg : decode code pc = .ok (.invokevirtual 47, 3))
    (kk : ∀ (w1 : NW) (r9 : Nat) (H1 : Heap) (locs1 : List Loc), r9 ≤ w.cnt → PI (k + 1) w1 → (w1.T.n = w.T.n ∧ w1.nd = w.nd ∧ w1.cnt = w.cnt + 1) → ST D ct A s a w1 x sl H1 locs1 → W p l e R s m #[Value.ref b9] below meth c H1 locs1 cells slots Q (F0 m (pc + 3) ls (.int (nI r9) :: rest)))
    : W p l e R s m #[Value.ref b9] below meth c H locs cells slots Q (F0 m pc ls (.int (nI tg) :: .int sp :: .int (nI pl) :: .int (nI kd) :: .ref (a.wa 0) :: rest)) := by
  exact v_front_ok l D ct st C0 a w x kd pl sp tg hc h1 h2 h3 h4 hro hT.1 hT.2.1 hT.2.2 hsz hcat hdg (fun ck1 cp1 ca1 cs1 cg1 H1 locs1 hq hP1 hD1 hS1 => kk ((NW.mk (w.T) (w.cS) (w.gS) (w.no) (w.A) (w.cnt + 1) (ck1) (cp1) (ca1) (cs1) (cg1) (w.nd) (w.im) (w.fr) (w.lo) (w.op) (w.rs) (w.hd) (w.fl) (w.cv) (w.gt) (w.nh) (w.nf) (w.nc))) _ H1 locs1 (r_at_le _ _ _) (hI.front hc h1 h2 h3 h4 hq) ⟨rfl, rfl, rfl⟩ ⟨hP1, hD1, hS1⟩)
set_option maxHeartbeats 1000000 in
set_option maxRecDepth 100000 in
theorem u_tick {p : Program} {e : Env} {R : Room} {s : State} {m : MethodId} {below : List Frame} {meth : Method} {c : Code} {H : Heap} {locs : List Loc} {cells slots : Nat} {Q : State → Prop} {ls : Array Slot} {A : Nat → Prop} {a0 : Cond} {pc : Nat} {rest : List Value} (l : Launch) (D : va_G) (ct : Nat → ClassId) (st : Nat → Nat) {b9 L9 : Nat} {xs : Nat → Int32} (C0 : LX p l R s m c b9 L9 xs D ct st A a0) (a : AD) {w : NW} {x : SC} {sl : Nat → Option (SD × NW)} {k : Nat} (hI : PI k w) (hk : k < 512) (tt : Nat) (ht : 1 ≤ tt ∧ tt ≤ 100) (hro : cells ≤ R.cells ∧ slots ≤ R.slots) (hT : ST D ct A s a w x sl H locs) (hsz : ls.size = 13) (hcat : (rest.map fun v => v.category).sum ≤ 8) (hdg : decode code pc = .ok (.invokevirtual 54, 3))
    (kk : ∀ (w1 : NW) (H1 : Heap) (locs1 : List Loc), PI (k + 1) w1 → (w1.T.n = w.T.n ∧ w1.nd = w.nd ∧ w1.cnt ≤ 8) → ST D ct A s a w1 x sl H1 locs1 → W p l e R s m #[Value.ref b9] below meth c H1 locs1 cells slots Q (F0 m (pc + 3) ls (.int (nI w1.cnt) :: rest)))
    : W p l e R s m #[Value.ref b9] below meth c H locs cells slots Q (F0 m pc ls (.int (nI tt) :: .ref (a.wa 0) :: rest)) := by
  obtain ⟨S, hR, hK, hTop⟩ := id hI
  have h32 := hR.n32
  have hcS := hR.2.1.2.2
  exact v_tick_ok l D ct st C0 a w x tt ht hR.2.2.1.2.1 hR.2.2.1.2.2.1 hro hT.1 hT.2.1 hT.2.2 hsz hcat hdg (fun ck1 cp1 ca1 cs1 cg1 c9 H1 locs1 hq hP1 hD1 hS1 => kk ((NW.mk (w.T) (w.cS) (w.gS) (w.no) (w.A) (c9) (ck1) (cp1) (ca1) (cs1) (cg1) (w.nd) (w.im) (w.fr) (w.lo) (w.op) (w.rs) (w.hd) (w.fl) (w.cv) (w.gt) (w.nh) (w.nf) (w.nc))) H1 locs1 (hI.tick hq).1 ⟨rfl, rfl, (hI.tick hq).2⟩ ⟨hP1, hD1, hS1⟩)
set_option maxHeartbeats 1000000 in
set_option maxRecDepth 100000 in
theorem u_newpipe {p : Program} {e : Env} {R : Room} {s : State} {m : MethodId} {below : List Frame} {meth : Method} {c : Code} {H : Heap} {locs : List Loc} {cells slots : Nat} {Q : State → Prop} {ls : Array Slot} {A : Nat → Prop} {a0 : Cond} {pc : Nat} {rest : List Value} (l : Launch) (D : va_G) (ct : Nat → ClassId) (st : Nat → Nat) {b9 L9 : Nat} {xs : Nat → Int32} (C0 : LX p l R s m c b9 L9 xs D ct st A a0) (a : AD) {w : NW} {x : SC} {sl : Nat → Option (SD × NW)} {k : Nat} (hI : PI k w) (hk : k < 512) (re im fr lo hd9 : Nat) (fl9 : Int32) (h1 : 1 ≤ re ∧ re ≤ 20) (h2 : 1 ≤ im ∧ im ≤ 50) (h3 : fr ≤ 20) (h4 : 1 ≤ lo ∧ lo ≤ 50) (h5 : hd9 ≤ 2000) (h6 : w_in fl9.toInt64 (-100) 100) (hro : cells ≤ R.cells ∧ slots ≤ R.slots) (hT : ST D ct A s a w x sl H locs) (hsz : ls.size = 13) (hcat : (rest.map fun v => v.category).sum ≤ 8) (hdg : decode code pc = .ok (.invokevirtual 32, 3))
    (kk : ∀ (w1 : NW) (H1 : Heap) (locs1 : List Loc), PI (k + 1) w1 → (w1.T.n = w.T.n ∧ ¬ w1.nd = 0 ∧ w1.cnt = w.cnt) → ST D ct A s a w1 x sl H1 locs1 → W p l e R s m #[Value.ref b9] below meth c H1 locs1 cells slots Q (F0 m (pc + 3) ls (rest)))
    : W p l e R s m #[Value.ref b9] below meth c H locs cells slots Q (F0 m pc ls (.int fl9 :: .int (nI hd9) :: .int (nI lo) :: .int (nI fr) :: .int (nI im) :: .int (nI re) :: .ref (a.wa 0) :: rest)) := by
  exact v_pipe_ok l D ct st C0 a w x re im fr lo hd9 fl9 h1 h2 h3 h4 h5 h6 hro hT.1 hT.2.1 hT.2.2 hsz hcat hdg (fun hd1 fl1 cv1 gt1 H1 locs1 hq hP1 hD1 hS1 => kk ((NW.mk (w.T) (w.cS) (w.gS) (w.no) (w.A) (w.cnt) (w.ck) (w.cp) (w.ca) (w.cs) (w.cg) (re + 1) (im) (fr) (lo) (100) (hd9) (hd1) (fl1) (cv1) (gt1) (w.nh) (w.nf) (w.nc))) H1 locs1 (hI.newpipe h1 h2 h3 h4 h5 h6 hq) ⟨rfl, Nat.succ_ne_zero _, rfl⟩ ⟨hP1, hD1, hS1⟩)
set_option maxHeartbeats 1000000 in
set_option maxRecDepth 100000 in
theorem u_valve {p : Program} {e : Env} {R : Room} {s : State} {m : MethodId} {below : List Frame} {meth : Method} {c : Code} {H : Heap} {locs : List Loc} {cells slots : Nat} {Q : State → Prop} {ls : Array Slot} {A : Nat → Prop} {a0 : Cond} {pc : Nat} {rest : List Value} (l : Launch) (D : va_G) (ct : Nat → ClassId) (st : Nat → Nat) {b9 L9 : Nat} {xs : Nat → Int32} (C0 : LX p l R s m c b9 L9 xs D ct st A a0) (a : AD) {w : NW} {x : SC} {sl : Nat → Option (SD × NW)} {k : Nat} (hI : PI k w) (hk : k < 512) (o9 : Nat) (h1 : o9 ≤ 100) (hnd : ¬ w.nd = 0) (hro : cells ≤ R.cells ∧ slots ≤ R.slots) (hT : ST D ct A s a w x sl H locs) (hsz : ls.size = 13) (hcat : (rest.map fun v => v.category).sum ≤ 8) (hdg : decode code pc = .ok (.invokevirtual 58, 3))
    (kk : ∀ (w1 : NW) (r9 : Nat) (H1 : Heap) (locs1 : List Loc), PI (k + 1) w1 → (w1.T.n = w.T.n ∧ w1.nd = w.nd ∧ w1.cnt = w.cnt) → ST D ct A s a w1 x sl H1 locs1 → W p l e R s m #[Value.ref b9] below meth c H1 locs1 cells slots Q (F0 m (pc + 3) ls (.int (nI r9) :: rest)))
    : W p l e R s m #[Value.ref b9] below meth c H locs cells slots Q (F0 m pc ls (.int (nI o9) :: .ref (a.wa 0) :: rest)) := by
  obtain ⟨S, hR, hK, hTop⟩ := id hI
  have h32 := hR.n32
  have hcS := hR.2.1.2.2
  obtain ⟨la, hla, -, -, -, p4, -⟩ := hR.pipe hnd
  exact v_valve_ok l D ct st C0 a w x o9 h1 ⟨by omega, by omega⟩ hro hT.1 hT.2.1 hT.2.2 hsz hcat hdg (fun  H1 locs1 hq hP1 hD1 hS1 => kk ((NW.mk (w.T) (w.cS) (w.gS) (w.no) (w.A) (w.cnt) (w.ck) (w.cp) (w.ca) (w.cs) (w.cg) (w.nd) (w.im) (w.fr) (w.lo) (o9) (w.rs) (w.hd) (w.fl) (w.cv) (w.gt) (w.nh) (w.nf) (w.nc))) _ H1 locs1 (hI.valve h1 hnd) ⟨rfl, rfl, rfl⟩ ⟨hP1, hD1, hS1⟩)
set_option maxHeartbeats 1000000 in
set_option maxRecDepth 100000 in
theorem u_flow {p : Program} {e : Env} {R : Room} {s : State} {m : MethodId} {below : List Frame} {meth : Method} {c : Code} {H : Heap} {locs : List Loc} {cells slots : Nat} {Q : State → Prop} {ls : Array Slot} {A : Nat → Prop} {a0 : Cond} {pc : Nat} {rest : List Value} (l : Launch) (D : va_G) (ct : Nat → ClassId) (st : Nat → Nat) {b9 L9 : Nat} {xs : Nat → Int32} (C0 : LX p l R s m c b9 L9 xs D ct st A a0) (a : AD) {w : NW} {x : SC} {sl : Nat → Option (SD × NW)} {k : Nat} (hI : PI k w) (hk : k < 512) (tk : Nat) (htk : 1 ≤ tk ∧ tk ≤ 100) (hnd : ¬ w.nd = 0) (hro : cells ≤ R.cells ∧ slots ≤ R.slots) (hT : ST D ct A s a w x sl H locs) (hsz : ls.size = 13) (hcat : (rest.map fun v => v.category).sum ≤ 8) (hdg : decode code pc = .ok (.invokevirtual 61, 3))
    (kk : ∀ (w1 : NW) (k9 : Nat) (H1 : Heap) (locs1 : List Loc), k9 ≤ tk → PI (k + 1) w1 → (w1.T.n = w.T.n ∧ w1.nd = w.nd ∧ w1.cnt = w.cnt) → ST D ct A s a w1 x sl H1 locs1 → W p l e R s m #[Value.ref b9] below meth c H1 locs1 cells slots Q (F0 m (pc + 3) ls (.int (nI k9) :: rest)))
    : W p l e R s m #[Value.ref b9] below meth c H locs cells slots Q (F0 m pc ls (.int (nI tk) :: .ref (a.wa 0) :: rest)) := by
  obtain ⟨S, hR, hK, hTop⟩ := id hI
  have h32 := hR.n32
  have hcS := hR.2.1.2.2
  obtain ⟨la, hla, -, -, -, -, hp⟩ := hR.pipe hnd
  obtain ⟨T9, cS9, gS9, no9, A9, cnt9, ck9, cp9, ca9, cs9, cg9, nd9, im9, fr9, lo9, op9, rs9, hd9, fl9, cv9, gt9, nh9, nf9, nc9⟩ := w
  obtain rfl : nd9 = la + 1 := hla
  exact v_flow_ok l D ct st C0 a (NW.mk T9 cS9 gS9 no9 A9 cnt9 ck9 cp9 ca9 cs9 cg9 (la + 1) im9 fr9 lo9 op9 rs9 hd9 fl9 cv9 gt9 nh9 nf9 nc9) x la tk htk hp.pw hro hT.1 hT.2.1 hT.2.2 hsz hcat hdg (fun hd1 fl1 cv1 gt1 nh1 nf1 nc1 k9 H1 locs1 hq hP1 hD1 hS1 => kk (NW.mk T9 cS9 gS9 no9 A9 cnt9 ck9 cp9 ca9 cs9 cg9 (la + 1) im9 fr9 lo9 op9 rs9 hd1 fl1 cv1 gt1 nh1 nf1 nc1) k9 H1 locs1 hq.2.2 (hI.flow rfl hq) ⟨rfl, rfl, rfl⟩ ⟨hP1, hD1, hS1⟩)
set_option maxHeartbeats 1000000 in
set_option maxRecDepth 100000 in
theorem u_anew_0 {p : Program} {e : Env} {R : Room} {s : State} {m : MethodId} {below : List Frame} {meth : Method} {c : Code} {H : Heap} {locs : List Loc} {cells slots : Nat} {Q : State → Prop} {ls : Array Slot} {A : Nat → Prop} {a0 : Cond} {pc : Nat} {rest : List Value} (l : Launch) (D : va_G) (ct : Nat → ClassId) (st : Nat → Nat) {b9 L9 : Nat} {xs : Nat → Int32} (C0 : LX p l R s m c b9 L9 xs D ct st A a0) (a : AD) {w : NW} {x : SC} {sl : Nat → Option (SD × NW)} {k : Nat} (hI : PI k w) (hk : k < 512) (c9 : Nat) (hc : c9 < w.T.n) (hro : cells ≤ R.cells ∧ slots ≤ R.slots) (hT : ST D ct A s a w x sl H locs) (hsz : ls.size = 13) (hcat : (rest.map fun v => v.category).sum ≤ 8) (hdg : decode code pc = .ok (.invokevirtual 80, 3))
    (kk : ∀ (w1 : NW) (x1 : SC) (H1 : Heap) (locs1 : List Loc), PI k w1 → (w1.T = w.T ∧ w1.nd = w.nd ∧ w1.cnt = w.cnt) → x1.kf = x.kf → ∀ y : Int32, y = w_gr (w.T.M c9) → ST D ct A s a w1 x1 sl H1 locs1 → W p l e R s m #[Value.ref b9] below meth c H1 locs1 cells slots Q (F0 m (pc + 3) ls (.int y :: rest)))
    : W p l e R s m #[Value.ref b9] below meth c H locs cells slots Q (F0 m pc ls (.int 0 :: .int (nI c9) :: .ref (a.wa 0) :: rest)) := by
  obtain ⟨S, hR, hK, hTop⟩ := id hI
  have h32 := hR.n32
  have hcS := hR.2.1.2.2
  exact v_anew_0 l D ct st C0 a w x c9 S hc h32.2 hR.story hro hT.1 hT.2.1 hT.2.2 hsz hcat hdg (fun gA1 ignA1 partA1 heatA1 nsA1 mMA1 mPA1 mEA1 mFA1 tdA1 cmA1 grA1 gsA1 vs1 vo1 k01 k11 k21 pa91 o01 o11 o21 o31 x01 x11 x21 x31 pb1 bq1 H1 locs1 hq hP1 hD1 hS1 => kk ((NW.mk (w.T) (w.cS) (w.cS) (w.no) ((TB.mk (gA1) (ignA1) (partA1) (heatA1) (w.A.n) (w.A.lf) (w.A.rg) (nsA1) (mMA1) (mPA1) (mEA1) (mFA1) (tdA1) (cmA1) (grA1) (gsA1))) (w.cnt) (w.ck) (w.cp) (w.ca) (w.cs) (w.cg) (w.nd) (w.im) (w.fr) (w.lo) (w.op) (w.rs) (w.hd) (w.fl) (w.cv) (w.gt) (w.nh) (w.nf) (w.nc))) ((SC.mk (bq1) (vs1) (vo1) (k01) (k11) (k21) (pa91) (o01) (o11) (o21) (o31) (x01) (x11) (x21) (x31) (pb1) (x.kf))) H1 locs1 ⟨S, hR.anew (A9 := (TB.mk (gA1) (ignA1) (partA1) (heatA1) (w.A.n) (w.A.lf) (w.A.rg) (nsA1) (mMA1) (mPA1) (mEA1) (mFA1) (tdA1) (cmA1) (grA1) (gsA1))) hq ⟨rfl, rfl, rfl⟩, hK, hTop⟩ ⟨rfl, rfl, rfl⟩ rfl (w_gr (mMA1 c9)) ((hq.vals (hR.An hc)).1.trans (hR.v_tube hc).1.symm) ⟨hP1, hD1, hS1⟩)
set_option maxHeartbeats 1000000 in
set_option maxRecDepth 100000 in
theorem u_anew_2 {p : Program} {e : Env} {R : Room} {s : State} {m : MethodId} {below : List Frame} {meth : Method} {c : Code} {H : Heap} {locs : List Loc} {cells slots : Nat} {Q : State → Prop} {ls : Array Slot} {A : Nat → Prop} {a0 : Cond} {pc : Nat} {rest : List Value} (l : Launch) (D : va_G) (ct : Nat → ClassId) (st : Nat → Nat) {b9 L9 : Nat} {xs : Nat → Int32} (C0 : LX p l R s m c b9 L9 xs D ct st A a0) (a : AD) {w : NW} {x : SC} {sl : Nat → Option (SD × NW)} {k : Nat} (hI : PI k w) (hk : k < 512) (c9 : Nat) (hc : c9 < w.T.n) (hro : cells ≤ R.cells ∧ slots ≤ R.slots) (hT : ST D ct A s a w x sl H locs) (hsz : ls.size = 13) (hcat : (rest.map fun v => v.category).sum ≤ 8) (hdg : decode code pc = .ok (.invokevirtual 80, 3))
    (kk : ∀ (w1 : NW) (x1 : SC) (H1 : Heap) (locs1 : List Loc), PI k w1 → (w1.T = w.T ∧ w1.nd = w.nd ∧ w1.cnt = w.cnt) → x1.kf = x.kf → ∀ y : Int32, y = w_gr (w.T.E c9) → ST D ct A s a w1 x1 sl H1 locs1 → W p l e R s m #[Value.ref b9] below meth c H1 locs1 cells slots Q (F0 m (pc + 3) ls (.int y :: rest)))
    : W p l e R s m #[Value.ref b9] below meth c H locs cells slots Q (F0 m pc ls (.int 2 :: .int (nI c9) :: .ref (a.wa 0) :: rest)) := by
  obtain ⟨S, hR, hK, hTop⟩ := id hI
  have h32 := hR.n32
  have hcS := hR.2.1.2.2
  exact v_anew_2 l D ct st C0 a w x c9 S hc h32.2 hR.story hro hT.1 hT.2.1 hT.2.2 hsz hcat hdg (fun gA1 ignA1 partA1 heatA1 nsA1 mMA1 mPA1 mEA1 mFA1 tdA1 cmA1 grA1 gsA1 vs1 vo1 k01 k11 k21 pa91 o01 o11 o21 o31 x01 x11 x21 x31 pb1 bq1 H1 locs1 hq hP1 hD1 hS1 => kk ((NW.mk (w.T) (w.cS) (w.cS) (w.no) ((TB.mk (gA1) (ignA1) (partA1) (heatA1) (w.A.n) (w.A.lf) (w.A.rg) (nsA1) (mMA1) (mPA1) (mEA1) (mFA1) (tdA1) (cmA1) (grA1) (gsA1))) (w.cnt) (w.ck) (w.cp) (w.ca) (w.cs) (w.cg) (w.nd) (w.im) (w.fr) (w.lo) (w.op) (w.rs) (w.hd) (w.fl) (w.cv) (w.gt) (w.nh) (w.nf) (w.nc))) ((SC.mk (bq1) (vs1) (vo1) (k01) (k11) (k21) (pa91) (o01) (o11) (o21) (o31) (x01) (x11) (x21) (x31) (pb1) (x.kf))) H1 locs1 ⟨S, hR.anew (A9 := (TB.mk (gA1) (ignA1) (partA1) (heatA1) (w.A.n) (w.A.lf) (w.A.rg) (nsA1) (mMA1) (mPA1) (mEA1) (mFA1) (tdA1) (cmA1) (grA1) (gsA1))) hq ⟨rfl, rfl, rfl⟩, hK, hTop⟩ ⟨rfl, rfl, rfl⟩ rfl (w_gr (mEA1 c9)) ((hq.vals (hR.An hc)).2.2.1.trans (hR.v_tube hc).2.2.1.symm) ⟨hP1, hD1, hS1⟩)
set_option maxHeartbeats 1000000 in
set_option maxRecDepth 100000 in
theorem u_isKept_0 {p : Program} {e : Env} {R : Room} {s : State} {m : MethodId} {below : List Frame} {meth : Method} {c : Code} {H : Heap} {locs : List Loc} {cells slots : Nat} {Q : State → Prop} {ls : Array Slot} {A : Nat → Prop} {a0 : Cond} {pc : Nat} {rest : List Value} (l : Launch) (D : va_G) (ct : Nat → ClassId) (st : Nat → Nat) {b9 L9 : Nat} {xs : Nat → Int32} (C0 : LX p l R s m c b9 L9 xs D ct st A a0) (a : AD) {w : NW} {x : SC} {sl : Nat → Option (SD × NW)} {k : Nat} (hI : PI k w) (hk : k < 512)  (hro : cells ≤ R.cells ∧ slots ≤ R.slots) (hT : ST D ct A s a w x sl H locs) (hsz : ls.size = 13) (hcat : (rest.map fun v => v.category).sum ≤ 8) (hdg : decode code pc = .ok (.invokevirtual 76, 3))
    (kk : W p l e R s m #[Value.ref b9] below meth c H locs cells slots Q (F0 m (pc + 3) ls (.int 1 :: rest)))
    : W p l e R s m #[Value.ref b9] below meth c H locs cells slots Q (F0 m pc ls (.int 0 :: .ref (a.wa 0) :: rest)) := by
  obtain ⟨S, hR, hK, hTop⟩ := id hI
  have h32 := hR.n32
  have hcS := hR.2.1.2.2
  rw [show (.int 1 : Value) = .int (bI (w_sum w.T.M w.T.n = (w.T.td 0 + w.T.cm 0 + 0))) from congrArg Value.int (bI_t (hR.kp_0 hK)).symm] at kk
  exact v_isKept_0 l D ct st C0 a w x h32.2 hro hT.1 hT.2.1 hT.2.2 hsz hcat hdg kk
set_option maxHeartbeats 1000000 in
set_option maxRecDepth 100000 in
theorem u_isKept_1 {p : Program} {e : Env} {R : Room} {s : State} {m : MethodId} {below : List Frame} {meth : Method} {c : Code} {H : Heap} {locs : List Loc} {cells slots : Nat} {Q : State → Prop} {ls : Array Slot} {A : Nat → Prop} {a0 : Cond} {pc : Nat} {rest : List Value} (l : Launch) (D : va_G) (ct : Nat → ClassId) (st : Nat → Nat) {b9 L9 : Nat} {xs : Nat → Int32} (C0 : LX p l R s m c b9 L9 xs D ct st A a0) (a : AD) {w : NW} {x : SC} {sl : Nat → Option (SD × NW)} {k : Nat} (hI : PI k w) (hk : k < 512)  (hro : cells ≤ R.cells ∧ slots ≤ R.slots) (hT : ST D ct A s a w x sl H locs) (hsz : ls.size = 13) (hcat : (rest.map fun v => v.category).sum ≤ 8) (hdg : decode code pc = .ok (.invokevirtual 76, 3))
    (kk : W p l e R s m #[Value.ref b9] below meth c H locs cells slots Q (F0 m (pc + 3) ls (.int 1 :: rest)))
    : W p l e R s m #[Value.ref b9] below meth c H locs cells slots Q (F0 m pc ls (.int 1 :: .ref (a.wa 0) :: rest)) := by
  obtain ⟨S, hR, hK, hTop⟩ := id hI
  have h32 := hR.n32
  have hcS := hR.2.1.2.2
  rw [show (.int 1 : Value) = .int (bI (w_sum w.T.P w.T.n = (w.T.td 1 + w.T.cm 1 + 0))) from congrArg Value.int (bI_t (hR.kp_1 hK)).symm] at kk
  exact v_isKept_1 l D ct st C0 a w x h32.2 hro hT.1 hT.2.1 hT.2.2 hsz hcat hdg kk
set_option maxHeartbeats 1000000 in
set_option maxRecDepth 100000 in
theorem u_isKept_2 {p : Program} {e : Env} {R : Room} {s : State} {m : MethodId} {below : List Frame} {meth : Method} {c : Code} {H : Heap} {locs : List Loc} {cells slots : Nat} {Q : State → Prop} {ls : Array Slot} {A : Nat → Prop} {a0 : Cond} {pc : Nat} {rest : List Value} (l : Launch) (D : va_G) (ct : Nat → ClassId) (st : Nat → Nat) {b9 L9 : Nat} {xs : Nat → Int32} (C0 : LX p l R s m c b9 L9 xs D ct st A a0) (a : AD) {w : NW} {x : SC} {sl : Nat → Option (SD × NW)} {k : Nat} (hI : PI k w) (hk : k < 512)  (hro : cells ≤ R.cells ∧ slots ≤ R.slots) (hT : ST D ct A s a w x sl H locs) (hsz : ls.size = 13) (hcat : (rest.map fun v => v.category).sum ≤ 8) (hdg : decode code pc = .ok (.invokevirtual 76, 3))
    (kk : W p l e R s m #[Value.ref b9] below meth c H locs cells slots Q (F0 m (pc + 3) ls (.int 1 :: rest)))
    : W p l e R s m #[Value.ref b9] below meth c H locs cells slots Q (F0 m pc ls (.int 2 :: .ref (a.wa 0) :: rest)) := by
  obtain ⟨S, hR, hK, hTop⟩ := id hI
  have h32 := hR.n32
  have hcS := hR.2.1.2.2
  rw [show (.int 1 : Value) = .int (bI (w_sum w.T.E w.T.n = (w.T.td 2 + w.T.cm 2 + w.T.cm 4))) from congrArg Value.int (bI_t (hR.kp_2 hK)).symm] at kk
  exact v_isKept_2 l D ct st C0 a w x h32.2 hro hT.1 hT.2.1 hT.2.2 hsz hcat hdg kk
set_option maxHeartbeats 1000000 in
set_option maxRecDepth 100000 in
theorem u_isKept_3 {p : Program} {e : Env} {R : Room} {s : State} {m : MethodId} {below : List Frame} {meth : Method} {c : Code} {H : Heap} {locs : List Loc} {cells slots : Nat} {Q : State → Prop} {ls : Array Slot} {A : Nat → Prop} {a0 : Cond} {pc : Nat} {rest : List Value} (l : Launch) (D : va_G) (ct : Nat → ClassId) (st : Nat → Nat) {b9 L9 : Nat} {xs : Nat → Int32} (C0 : LX p l R s m c b9 L9 xs D ct st A a0) (a : AD) {w : NW} {x : SC} {sl : Nat → Option (SD × NW)} {k : Nat} (hI : PI k w) (hk : k < 512)  (hro : cells ≤ R.cells ∧ slots ≤ R.slots) (hT : ST D ct A s a w x sl H locs) (hsz : ls.size = 13) (hcat : (rest.map fun v => v.category).sum ≤ 8) (hdg : decode code pc = .ok (.invokevirtual 76, 3))
    (kk : W p l e R s m #[Value.ref b9] below meth c H locs cells slots Q (F0 m (pc + 3) ls (.int 1 :: rest)))
    : W p l e R s m #[Value.ref b9] below meth c H locs cells slots Q (F0 m pc ls (.int 3 :: .ref (a.wa 0) :: rest)) := by
  obtain ⟨S, hR, hK, hTop⟩ := id hI
  have h32 := hR.n32
  have hcS := hR.2.1.2.2
  rw [show (.int 1 : Value) = .int (bI (w_sum w.T.F w.T.n = (w.T.td 3 + w.T.cm 3 + -w.T.cm 5))) from congrArg Value.int (bI_t (hR.kp_3 hK)).symm] at kk
  exact v_isKept_3 l D ct st C0 a w x h32.2 hro hT.1 hT.2.1 hT.2.2 hsz hcat hdg kk
set_option maxHeartbeats 1000000 in
set_option maxRecDepth 100000 in
theorem u_tube_0 {p : Program} {e : Env} {R : Room} {s : State} {m : MethodId} {below : List Frame} {meth : Method} {c : Code} {H : Heap} {locs : List Loc} {cells slots : Nat} {Q : State → Prop} {ls : Array Slot} {A : Nat → Prop} {a0 : Cond} {pc : Nat} {rest : List Value} (l : Launch) (D : va_G) (ct : Nat → ClassId) (st : Nat → Nat) {b9 L9 : Nat} {xs : Nat → Int32} (C0 : LX p l R s m c b9 L9 xs D ct st A a0) (a : AD) {w : NW} {x : SC} {sl : Nat → Option (SD × NW)} {k : Nat} (hI : PI k w) (hk : k < 512) (c9 : Nat) (hc : c9 < w.T.n) (hro : cells ≤ R.cells ∧ slots ≤ R.slots) (hT : ST D ct A s a w x sl H locs) (hsz : ls.size = 13) (hcat : (rest.map fun v => v.category).sum ≤ 8) (hdg : decode code pc = .ok (.invokevirtual 70, 3))
    (kk : W p l e R s m #[Value.ref b9] below meth c H locs cells slots Q (F0 m (pc + 3) ls (.int (w_gr (w.T.M c9)) :: rest)))
    : W p l e R s m #[Value.ref b9] below meth c H locs cells slots Q (F0 m pc ls (.int 0 :: .int (nI c9) :: .ref (a.wa 0) :: rest)) := by
  obtain ⟨S, hR, hK, hTop⟩ := id hI
  have h32 := hR.n32
  have hcS := hR.2.1.2.2
  exact v_tube_0 l D ct st C0 a w x c9 hc h32.2 hR.S0.2 (hR.okc c9 hc) hro hT.1 hT.2.1 hT.2.2 hsz hcat hdg kk
set_option maxHeartbeats 1000000 in
set_option maxRecDepth 100000 in
theorem u_tube_2 {p : Program} {e : Env} {R : Room} {s : State} {m : MethodId} {below : List Frame} {meth : Method} {c : Code} {H : Heap} {locs : List Loc} {cells slots : Nat} {Q : State → Prop} {ls : Array Slot} {A : Nat → Prop} {a0 : Cond} {pc : Nat} {rest : List Value} (l : Launch) (D : va_G) (ct : Nat → ClassId) (st : Nat → Nat) {b9 L9 : Nat} {xs : Nat → Int32} (C0 : LX p l R s m c b9 L9 xs D ct st A a0) (a : AD) {w : NW} {x : SC} {sl : Nat → Option (SD × NW)} {k : Nat} (hI : PI k w) (hk : k < 512) (c9 : Nat) (hc : c9 < w.T.n) (hro : cells ≤ R.cells ∧ slots ≤ R.slots) (hT : ST D ct A s a w x sl H locs) (hsz : ls.size = 13) (hcat : (rest.map fun v => v.category).sum ≤ 8) (hdg : decode code pc = .ok (.invokevirtual 70, 3))
    (kk : W p l e R s m #[Value.ref b9] below meth c H locs cells slots Q (F0 m (pc + 3) ls (.int (w_gr (w.T.E c9)) :: rest)))
    : W p l e R s m #[Value.ref b9] below meth c H locs cells slots Q (F0 m pc ls (.int 2 :: .int (nI c9) :: .ref (a.wa 0) :: rest)) := by
  obtain ⟨S, hR, hK, hTop⟩ := id hI
  have h32 := hR.n32
  have hcS := hR.2.1.2.2
  exact v_tube_2 l D ct st C0 a w x c9 hc h32.2 hR.S0.2 (hR.okc c9 hc) hro hT.1 hT.2.1 hT.2.2 hsz hcat hdg kk
set_option maxHeartbeats 1000000 in
set_option maxRecDepth 100000 in
theorem u_tube_3 {p : Program} {e : Env} {R : Room} {s : State} {m : MethodId} {below : List Frame} {meth : Method} {c : Code} {H : Heap} {locs : List Loc} {cells slots : Nat} {Q : State → Prop} {ls : Array Slot} {A : Nat → Prop} {a0 : Cond} {pc : Nat} {rest : List Value} (l : Launch) (D : va_G) (ct : Nat → ClassId) (st : Nat → Nat) {b9 L9 : Nat} {xs : Nat → Int32} (C0 : LX p l R s m c b9 L9 xs D ct st A a0) (a : AD) {w : NW} {x : SC} {sl : Nat → Option (SD × NW)} {k : Nat} (hI : PI k w) (hk : k < 512) (c9 : Nat) (hc : c9 < w.T.n) (hro : cells ≤ R.cells ∧ slots ≤ R.slots) (hT : ST D ct A s a w x sl H locs) (hsz : ls.size = 13) (hcat : (rest.map fun v => v.category).sum ≤ 8) (hdg : decode code pc = .ok (.invokevirtual 70, 3))
    (kk : W p l e R s m #[Value.ref b9] below meth c H locs cells slots Q (F0 m (pc + 3) ls (.int (w_gr (w.T.F c9)) :: rest)))
    : W p l e R s m #[Value.ref b9] below meth c H locs cells slots Q (F0 m pc ls (.int 3 :: .int (nI c9) :: .ref (a.wa 0) :: rest)) := by
  obtain ⟨S, hR, hK, hTop⟩ := id hI
  have h32 := hR.n32
  have hcS := hR.2.1.2.2
  exact v_tube_3 l D ct st C0 a w x c9 hc h32.2 hR.S0.2 (hR.okc c9 hc) hro hT.1 hT.2.1 hT.2.2 hsz hcat hdg kk
set_option maxHeartbeats 1000000 in
set_option maxRecDepth 100000 in
theorem u_tube_4 {p : Program} {e : Env} {R : Room} {s : State} {m : MethodId} {below : List Frame} {meth : Method} {c : Code} {H : Heap} {locs : List Loc} {cells slots : Nat} {Q : State → Prop} {ls : Array Slot} {A : Nat → Prop} {a0 : Cond} {pc : Nat} {rest : List Value} (l : Launch) (D : va_G) (ct : Nat → ClassId) (st : Nat → Nat) {b9 L9 : Nat} {xs : Nat → Int32} (C0 : LX p l R s m c b9 L9 xs D ct st A a0) (a : AD) {w : NW} {x : SC} {sl : Nat → Option (SD × NW)} {k : Nat} (hI : PI k w) (hk : k < 512) (c9 : Nat) (hc : c9 < w.T.n) (hro : cells ≤ R.cells ∧ slots ≤ R.slots) (hT : ST D ct A s a w x sl H locs) (hsz : ls.size = 13) (hcat : (rest.map fun v => v.category).sum ≤ 8) (hdg : decode code pc = .ok (.invokevirtual 70, 3))
    (kk : W p l e R s m #[Value.ref b9] below meth c H locs cells slots Q (F0 m (pc + 3) ls (.int (w_gr (w_pr w.T.g w.T.M w.T.P w.T.E c9)) :: rest)))
    : W p l e R s m #[Value.ref b9] below meth c H locs cells slots Q (F0 m pc ls (.int 4 :: .int (nI c9) :: .ref (a.wa 0) :: rest)) := by
  obtain ⟨S, hR, hK, hTop⟩ := id hI
  have h32 := hR.n32
  have hcS := hR.2.1.2.2
  exact v_tube_4 l D ct st C0 a w x c9 hc h32.2 hR.S0.2 (hR.okc c9 hc) hro hT.1 hT.2.1 hT.2.2 hsz hcat hdg kk
set_option maxHeartbeats 1000000 in
set_option maxRecDepth 100000 in
theorem u_steps {p : Program} {e : Env} {R : Room} {s : State} {m : MethodId} {below : List Frame} {meth : Method} {c : Code} {H : Heap} {locs : List Loc} {cells slots : Nat} {Q : State → Prop} {ls : Array Slot} {A : Nat → Prop} {a0 : Cond} {pc : Nat} {rest : List Value} (l : Launch) (D : va_G) (ct : Nat → ClassId) (st : Nat → Nat) {b9 L9 : Nat} {xs : Nat → Int32} (C0 : LX p l R s m c b9 L9 xs D ct st A a0) (a : AD) {w : NW} {x : SC} {sl : Nat → Option (SD × NW)} {k : Nat} (hI : PI k w) (hk : k < 512)  (hro : cells ≤ R.cells ∧ slots ≤ R.slots) (hT : ST D ct A s a w x sl H locs) (hsz : ls.size = 13) (hcat : (rest.map fun v => v.category).sum ≤ 8) (hdg : decode code pc = .ok (.invokevirtual 39, 3))
    (kk : W p l e R s m #[Value.ref b9] below meth c H locs cells slots Q (F0 m (pc + 3) ls (.int (nI w.T.ns) :: rest)))
    : W p l e R s m #[Value.ref b9] below meth c H locs cells slots Q (F0 m pc ls (.ref (a.wa 0) :: rest)) := by
  exact v_steps l D ct st C0 a w x  hro hT.1 hT.2.1 hT.2.2 hsz hcat hdg kk
set_option maxHeartbeats 1000000 in
set_option maxRecDepth 100000 in
theorem u_fronts {p : Program} {e : Env} {R : Room} {s : State} {m : MethodId} {below : List Frame} {meth : Method} {c : Code} {H : Heap} {locs : List Loc} {cells slots : Nat} {Q : State → Prop} {ls : Array Slot} {A : Nat → Prop} {a0 : Cond} {pc : Nat} {rest : List Value} (l : Launch) (D : va_G) (ct : Nat → ClassId) (st : Nat → Nat) {b9 L9 : Nat} {xs : Nat → Int32} (C0 : LX p l R s m c b9 L9 xs D ct st A a0) (a : AD) {w : NW} {x : SC} {sl : Nat → Option (SD × NW)} {k : Nat} (hI : PI k w) (hk : k < 512)  (hro : cells ≤ R.cells ∧ slots ≤ R.slots) (hT : ST D ct A s a w x sl H locs) (hsz : ls.size = 13) (hcat : (rest.map fun v => v.category).sum ≤ 8) (hdg : decode code pc = .ok (.invokevirtual 51, 3))
    (kk : W p l e R s m #[Value.ref b9] below meth c H locs cells slots Q (F0 m (pc + 3) ls (.int (nI w.cnt) :: rest)))
    : W p l e R s m #[Value.ref b9] below meth c H locs cells slots Q (F0 m pc ls (.ref (a.wa 0) :: rest)) := by
  exact v_fronts l D ct st C0 a w x  hro hT.1 hT.2.1 hT.2.2 hsz hcat hdg kk
set_option maxHeartbeats 1000000 in
set_option maxRecDepth 100000 in
theorem u_node_0 {p : Program} {e : Env} {R : Room} {s : State} {m : MethodId} {below : List Frame} {meth : Method} {c : Code} {H : Heap} {locs : List Loc} {cells slots : Nat} {Q : State → Prop} {ls : Array Slot} {A : Nat → Prop} {a0 : Cond} {pc : Nat} {rest : List Value} (l : Launch) (D : va_G) (ct : Nat → ClassId) (st : Nat → Nat) {b9 L9 : Nat} {xs : Nat → Int32} (C0 : LX p l R s m c b9 L9 xs D ct st A a0) (a : AD) {w : NW} {x : SC} {sl : Nat → Option (SD × NW)} {k : Nat} (hI : PI k w) (hk : k < 512) (hnd : ¬ w.nd = 0) (hro : cells ≤ R.cells ∧ slots ≤ R.slots) (hT : ST D ct A s a w x sl H locs) (hsz : ls.size = 13) (hcat : (rest.map fun v => v.category).sum ≤ 8) (hdg : decode code pc = .ok (.invokevirtual 64, 3))
    (kk : W p l e R s m #[Value.ref b9] below meth c H locs cells slots Q (F0 m (pc + 3) ls (.int (w_gr (w.hd 0)) :: rest)))
    : W p l e R s m #[Value.ref b9] below meth c H locs cells slots Q (F0 m pc ls (.int 0 :: .int (nI 0) :: .ref (a.wa 0) :: rest)) := by
  obtain ⟨S, hR, hK, hTop⟩ := id hI
  have h32 := hR.n32
  have hcS := hR.2.1.2.2
  obtain ⟨la, hla, -, -, -, p4, -⟩ := hR.pipe hnd
  exact v_node_0 l D ct st C0 a w x 0 (by omega) (by omega) hro hT.1 hT.2.1 hT.2.2 hsz hcat hdg kk
set_option maxHeartbeats 1000000 in
set_option maxRecDepth 100000 in
theorem u_node_3 {p : Program} {e : Env} {R : Room} {s : State} {m : MethodId} {below : List Frame} {meth : Method} {c : Code} {H : Heap} {locs : List Loc} {cells slots : Nat} {Q : State → Prop} {ls : Array Slot} {A : Nat → Prop} {a0 : Cond} {pc : Nat} {rest : List Value} (l : Launch) (D : va_G) (ct : Nat → ClassId) (st : Nat → Nat) {b9 L9 : Nat} {xs : Nat → Int32} (C0 : LX p l R s m c b9 L9 xs D ct st A a0) (a : AD) {w : NW} {x : SC} {sl : Nat → Option (SD × NW)} {k : Nat} (hI : PI k w) (hk : k < 512) (hnd : ¬ w.nd = 0) (hro : cells ≤ R.cells ∧ slots ≤ R.slots) (hT : ST D ct A s a w x sl H locs) (hsz : ls.size = 13) (hcat : (rest.map fun v => v.category).sum ≤ 8) (hdg : decode code pc = .ok (.invokevirtual 64, 3))
    (kk : W p l e R s m #[Value.ref b9] below meth c H locs cells slots Q (F0 m (pc + 3) ls (.int (w_gr (w.gt 0)) :: rest)))
    : W p l e R s m #[Value.ref b9] below meth c H locs cells slots Q (F0 m pc ls (.int 3 :: .int (nI 0) :: .ref (a.wa 0) :: rest)) := by
  obtain ⟨S, hR, hK, hTop⟩ := id hI
  have h32 := hR.n32
  have hcS := hR.2.1.2.2
  obtain ⟨la, hla, -, -, -, p4, -⟩ := hR.pipe hnd
  exact v_node_3 l D ct st C0 a w x 0 (by omega) (by omega) hro hT.1 hT.2.1 hT.2.2 hsz hcat hdg kk
set_option maxHeartbeats 1000000 in
set_option maxRecDepth 100000 in
theorem u_keep {p : Program} {e : Env} {R : Room} {s : State} {m : MethodId} {below : List Frame} {meth : Method} {c : Code} {H : Heap} {locs : List Loc} {cells slots : Nat} {Q : State → Prop} {ls : Array Slot} {A : Nat → Prop} {a0 : Cond} {pc : Nat} {rest : List Value} (l : Launch) (D : va_G) (ct : Nat → ClassId) (st : Nat → Nat) {b9 L9 : Nat} {xs : Nat → Int32} (C0 : LX p l R s m c b9 L9 xs D ct st A a0) (a : AD) {w : NW} {x : SC} {sl : Nat → Option (SD × NW)} {k : Nat} (hI : PI k w) (hk : k < 512) (j9 : Nat) (hj : j9 < 4) (hIK : InvK x sl) (hro : cells + 39 ≤ R.cells ∧ slots + 3726 ≤ R.slots) (hT : ST D ct A s a w x sl H locs) (hsz : ls.size = 13) (hcat : (rest.map fun v => v.category).sum ≤ 8) (hdg : decode code pc = .ok (.invokevirtual 67, 3))
    (kk : ∀ (x1 : SC) (sl1 : Nat → Option (SD × NW)) (d : SD) (wS : NW) (H1 : Heap) (locs1 : List Loc) (c1 s1 : Nat), c1 ≤ cells + 39 → s1 ≤ slots + 3726 → sl1 j9 = some (d, wS) → x1.kf j9 = some (d.ob 0) → NW.like w wS → InvK x1 sl1 → ST D ct A s a w x1 sl1 H1 locs1 → W p l e R s m #[Value.ref b9] below meth c H1 locs1 c1 s1 Q (F0 m (pc + 3) ls (rest)))
    : W p l e R s m #[Value.ref b9] below meth c H locs cells slots Q (F0 m pc ls (.int (nI j9) :: .ref (a.wa 0) :: rest)) := by
  obtain ⟨S, hR, hK, hTop⟩ := id hI
  have h32 := hR.n32
  have hcS := hR.2.1.2.2
  rcases hIK j9 hj with ⟨z1, z2⟩ | ⟨d, wB, z1, z2⟩
  · obtain ⟨za, zb, y1, y2⟩ := zsplit ct sl (j9 := j9) hj
    have hP2 := hT.1
    have hD2 := hT.2.1
    rw [y1, z1] at hP2 hD2
    replace hP2 : va_P D classes ((lawW ct a w x ++ []) ++ (zb ++ za)) H := va_outP hP2
    replace hD2 : va_D A ((lawW ct a w x ++ []) ++ (zb ++ za)) := va_outD hD2
    rw [List.append_nil] at hP2 hD2
    exact v_keep_new l D ct st C0 a w x j9 (by omega) z2 (by omega) hro hP2 hD2 hT.2.2 hsz hcat hdg (fun ob tb yb tv rb pb9 mMB1 mPB1 mEB1 mFB1 tdB1 cmB1 grB1 gsB1 mMC1 mPC1 mEC1 mFC1 tdC1 cmC1 grC1 gsC1 H1 locs1 hq hP1 hD1 hS1 => kk ((SC.mk (x.bq) (x.vs) (x.vo) (x.k0) (x.k1) (x.k2) (x.pa9) (x.o0) (x.o1) (x.o2) (x.o3) (x.x0) (x.x1) (x.x2) (x.x3) (x.pb) ((va_up x.kf j9 (some (ob 0)))))) (slU sl j9 (some ((SD.mk (ob) (tb) (yb) (tv) (rb) (pb9)), (NW.mk ((TB.mk (w.T.g) (w.T.ig) (w.T.pa) (w.T.he) (w.T.n) (w.T.lf) (w.T.rg) (w.T.ns) ((fun j => if j < 32 then w.T.M j else mMB1 j)) ((fun j => if j < 32 then w.T.P j else mPB1 j)) ((fun j => if j < 32 then w.T.E j else mEB1 j)) ((fun j => if j < 32 then w.T.F j else mFB1 j)) ((fun j => if j < 4 then w.T.td j else tdB1 j)) ((fun j => if j < 6 then w.T.cm j else cmB1 j)) ((fun j => if j < 32 then w.T.gr j else grB1 j)) ((fun j => if j < 32 then w.T.gs j else gsB1 j)))) (w.cS) (w.gS) ((fun j => if j < w.cS * 6 then w.no j else (fun _ => 0) j)) ((TB.mk (w.A.g) (w.A.ig) (w.A.pa) (w.A.he) (w.A.n) (w.A.lf) (w.A.rg) (w.A.ns) ((fun j => if j < 32 then w.A.M j else mMC1 j)) ((fun j => if j < 32 then w.A.P j else mPC1 j)) ((fun j => if j < 32 then w.A.E j else mEC1 j)) ((fun j => if j < 32 then w.A.F j else mFC1 j)) ((fun j => if j < 4 then w.A.td j else tdC1 j)) ((fun j => if j < 6 then w.A.cm j else cmC1 j)) ((fun j => if j < 32 then w.A.gr j else grC1 j)) ((fun j => if j < 32 then w.A.gs j else gsC1 j)))) (w.cnt) ((fun j => if j < 8 then w.ck j else (fun _ => 0) j)) ((fun j => if j < 8 then w.cp j else (fun _ => 0) j)) ((fun j => if j < 8 then w.ca j else (fun _ => 0) j)) ((fun j => if j < 8 then w.cs j else (fun _ => 0) j)) ((fun j => if j < 8 then w.cg j else (fun _ => 0) j)) (w.nd) (w.im) (w.fr) (w.lo) (w.op) (w.rs) ((fun j => if j < 21 then w.hd j else (fun _ => 0) j)) ((fun j => if j < 21 then w.fl j else (fun _ => 0) j)) ((fun j => if j < 21 then w.cv j else (fun _ => 0) j)) ((fun j => if j < 21 then w.gt j else (fun _ => 0) j)) ((fun _ => 0)) ((fun _ => 0)) ((fun _ => 0)))))) (SD.mk (ob) (tb) (yb) (tv) (rb) (pb9)) ((NW.mk ((TB.mk (w.T.g) (w.T.ig) (w.T.pa) (w.T.he) (w.T.n) (w.T.lf) (w.T.rg) (w.T.ns) ((fun j => if j < 32 then w.T.M j else mMB1 j)) ((fun j => if j < 32 then w.T.P j else mPB1 j)) ((fun j => if j < 32 then w.T.E j else mEB1 j)) ((fun j => if j < 32 then w.T.F j else mFB1 j)) ((fun j => if j < 4 then w.T.td j else tdB1 j)) ((fun j => if j < 6 then w.T.cm j else cmB1 j)) ((fun j => if j < 32 then w.T.gr j else grB1 j)) ((fun j => if j < 32 then w.T.gs j else gsB1 j)))) (w.cS) (w.gS) ((fun j => if j < w.cS * 6 then w.no j else (fun _ => 0) j)) ((TB.mk (w.A.g) (w.A.ig) (w.A.pa) (w.A.he) (w.A.n) (w.A.lf) (w.A.rg) (w.A.ns) ((fun j => if j < 32 then w.A.M j else mMC1 j)) ((fun j => if j < 32 then w.A.P j else mPC1 j)) ((fun j => if j < 32 then w.A.E j else mEC1 j)) ((fun j => if j < 32 then w.A.F j else mFC1 j)) ((fun j => if j < 4 then w.A.td j else tdC1 j)) ((fun j => if j < 6 then w.A.cm j else cmC1 j)) ((fun j => if j < 32 then w.A.gr j else grC1 j)) ((fun j => if j < 32 then w.A.gs j else gsC1 j)))) (w.cnt) ((fun j => if j < 8 then w.ck j else (fun _ => 0) j)) ((fun j => if j < 8 then w.cp j else (fun _ => 0) j)) ((fun j => if j < 8 then w.ca j else (fun _ => 0) j)) ((fun j => if j < 8 then w.cs j else (fun _ => 0) j)) ((fun j => if j < 8 then w.cg j else (fun _ => 0) j)) (w.nd) (w.im) (w.fr) (w.lo) (w.op) (w.rs) ((fun j => if j < 21 then w.hd j else (fun _ => 0) j)) ((fun j => if j < 21 then w.fl j else (fun _ => 0) j)) ((fun j => if j < 21 then w.cv j else (fun _ => 0) j)) ((fun j => if j < 21 then w.gt j else (fun _ => 0) j)) ((fun _ => 0)) ((fun _ => 0)) ((fun _ => 0)))) H1 locs1 _ _ (Nat.le_refl _) (Nat.le_refl _) (if_pos rfl) (if_pos rfl) ⟨⟨⟨rfl, rfl, rfl, rfl, rfl, rfl, rfl, rfl⟩, fun j hj => ⟨if_pos hj, if_pos hj, if_pos hj, if_pos hj⟩, fun j hj => ⟨if_pos hj, if_pos hj⟩, fun j hj => if_pos hj, fun j hj => if_pos hj⟩, ⟨⟨rfl, rfl, rfl, rfl, rfl, rfl, rfl, rfl⟩, fun j hj => ⟨if_pos hj, if_pos hj, if_pos hj, if_pos hj⟩, fun j hj => ⟨if_pos hj, if_pos hj⟩, fun j hj => if_pos hj, fun j hj => if_pos hj⟩, ⟨rfl, rfl, fun j hj => if_pos hj⟩, ⟨rfl, fun j hj => ⟨if_pos hj, if_pos hj, if_pos hj, if_pos hj, if_pos hj⟩⟩, ⟨rfl, rfl, rfl, rfl, rfl, rfl⟩, fun j hj => ⟨if_pos hj, if_pos hj, if_pos hj, if_pos hj⟩⟩ (hIK.put (if_pos rfl) (fun j hj9 => if_neg hj9)) ⟨by rw [y2]; exact va_inP hP1, by rw [y2]; exact va_inD hD1, hS1⟩)
  · obtain ⟨za, zb, y1, y2⟩ := zsplit ct sl (j9 := j9) hj
    have hP2 := hT.1
    have hD2 := hT.2.1
    rw [y1, z1] at hP2 hD2
    replace hP2 : va_P D classes ((lawW ct a w x ++ slotW ct d wB) ++ (zb ++ za)) H := va_outP hP2
    replace hD2 : va_D A ((lawW ct a w x ++ slotW ct d wB) ++ (zb ++ za)) := va_outD hD2
    have hro0 : cells + 0 ≤ R.cells ∧ slots + 0 ≤ R.slots := ⟨by omega, by omega⟩
    exact v_keep_old l D ct st C0 a w x d wB j9 (by omega) z2 (by omega) hro0 hP2 hD2 hT.2.2 hsz hcat hdg (fun  H1 locs1 hq hP1 hD1 hS1 => kk x (slU sl j9 (some (d, (NW.mk ((TB.mk (w.T.g) (w.T.ig) (w.T.pa) (w.T.he) (w.T.n) (w.T.lf) (w.T.rg) (w.T.ns) ((fun j => if j < 32 then w.T.M j else wB.T.M j)) ((fun j => if j < 32 then w.T.P j else wB.T.P j)) ((fun j => if j < 32 then w.T.E j else wB.T.E j)) ((fun j => if j < 32 then w.T.F j else wB.T.F j)) ((fun j => if j < 4 then w.T.td j else wB.T.td j)) ((fun j => if j < 6 then w.T.cm j else wB.T.cm j)) ((fun j => if j < 32 then w.T.gr j else wB.T.gr j)) ((fun j => if j < 32 then w.T.gs j else wB.T.gs j)))) (w.cS) (w.gS) ((fun j => if j < w.cS * 6 then w.no j else wB.no j)) ((TB.mk (w.A.g) (w.A.ig) (w.A.pa) (w.A.he) (w.A.n) (w.A.lf) (w.A.rg) (w.A.ns) ((fun j => if j < 32 then w.A.M j else wB.A.M j)) ((fun j => if j < 32 then w.A.P j else wB.A.P j)) ((fun j => if j < 32 then w.A.E j else wB.A.E j)) ((fun j => if j < 32 then w.A.F j else wB.A.F j)) ((fun j => if j < 4 then w.A.td j else wB.A.td j)) ((fun j => if j < 6 then w.A.cm j else wB.A.cm j)) ((fun j => if j < 32 then w.A.gr j else wB.A.gr j)) ((fun j => if j < 32 then w.A.gs j else wB.A.gs j)))) (w.cnt) ((fun j => if j < 8 then w.ck j else wB.ck j)) ((fun j => if j < 8 then w.cp j else wB.cp j)) ((fun j => if j < 8 then w.ca j else wB.ca j)) ((fun j => if j < 8 then w.cs j else wB.cs j)) ((fun j => if j < 8 then w.cg j else wB.cg j)) (w.nd) (w.im) (w.fr) (w.lo) (w.op) (w.rs) ((fun j => if j < 21 then w.hd j else wB.hd j)) ((fun j => if j < 21 then w.fl j else wB.fl j)) ((fun j => if j < 21 then w.cv j else wB.cv j)) ((fun j => if j < 21 then w.gt j else wB.gt j)) (wB.nh) (wB.nf) (wB.nc))))) d ((NW.mk ((TB.mk (w.T.g) (w.T.ig) (w.T.pa) (w.T.he) (w.T.n) (w.T.lf) (w.T.rg) (w.T.ns) ((fun j => if j < 32 then w.T.M j else wB.T.M j)) ((fun j => if j < 32 then w.T.P j else wB.T.P j)) ((fun j => if j < 32 then w.T.E j else wB.T.E j)) ((fun j => if j < 32 then w.T.F j else wB.T.F j)) ((fun j => if j < 4 then w.T.td j else wB.T.td j)) ((fun j => if j < 6 then w.T.cm j else wB.T.cm j)) ((fun j => if j < 32 then w.T.gr j else wB.T.gr j)) ((fun j => if j < 32 then w.T.gs j else wB.T.gs j)))) (w.cS) (w.gS) ((fun j => if j < w.cS * 6 then w.no j else wB.no j)) ((TB.mk (w.A.g) (w.A.ig) (w.A.pa) (w.A.he) (w.A.n) (w.A.lf) (w.A.rg) (w.A.ns) ((fun j => if j < 32 then w.A.M j else wB.A.M j)) ((fun j => if j < 32 then w.A.P j else wB.A.P j)) ((fun j => if j < 32 then w.A.E j else wB.A.E j)) ((fun j => if j < 32 then w.A.F j else wB.A.F j)) ((fun j => if j < 4 then w.A.td j else wB.A.td j)) ((fun j => if j < 6 then w.A.cm j else wB.A.cm j)) ((fun j => if j < 32 then w.A.gr j else wB.A.gr j)) ((fun j => if j < 32 then w.A.gs j else wB.A.gs j)))) (w.cnt) ((fun j => if j < 8 then w.ck j else wB.ck j)) ((fun j => if j < 8 then w.cp j else wB.cp j)) ((fun j => if j < 8 then w.ca j else wB.ca j)) ((fun j => if j < 8 then w.cs j else wB.cs j)) ((fun j => if j < 8 then w.cg j else wB.cg j)) (w.nd) (w.im) (w.fr) (w.lo) (w.op) (w.rs) ((fun j => if j < 21 then w.hd j else wB.hd j)) ((fun j => if j < 21 then w.fl j else wB.fl j)) ((fun j => if j < 21 then w.cv j else wB.cv j)) ((fun j => if j < 21 then w.gt j else wB.gt j)) (wB.nh) (wB.nf) (wB.nc))) H1 locs1 _ _ (Nat.le_add_right _ 39) (Nat.le_add_right _ 3726) (if_pos rfl) z2 ⟨⟨⟨rfl, rfl, rfl, rfl, rfl, rfl, rfl, rfl⟩, fun j hj => ⟨if_pos hj, if_pos hj, if_pos hj, if_pos hj⟩, fun j hj => ⟨if_pos hj, if_pos hj⟩, fun j hj => if_pos hj, fun j hj => if_pos hj⟩, ⟨⟨rfl, rfl, rfl, rfl, rfl, rfl, rfl, rfl⟩, fun j hj => ⟨if_pos hj, if_pos hj, if_pos hj, if_pos hj⟩, fun j hj => ⟨if_pos hj, if_pos hj⟩, fun j hj => if_pos hj, fun j hj => if_pos hj⟩, ⟨rfl, rfl, fun j hj => if_pos hj⟩, ⟨rfl, fun j hj => ⟨if_pos hj, if_pos hj, if_pos hj, if_pos hj, if_pos hj⟩⟩, ⟨rfl, rfl, rfl, rfl, rfl, rfl⟩, fun j hj => ⟨if_pos hj, if_pos hj, if_pos hj, if_pos hj⟩⟩ (hIK.put z2 (fun _ _ => rfl)) ⟨by rw [y2]; exact va_inP hP1, by rw [y2]; exact va_inD hD1, hS1⟩)
set_option maxHeartbeats 1000000 in
set_option maxRecDepth 100000 in
theorem u_goBack {p : Program} {e : Env} {R : Room} {s : State} {m : MethodId} {below : List Frame} {meth : Method} {c : Code} {H : Heap} {locs : List Loc} {cells slots : Nat} {Q : State → Prop} {ls : Array Slot} {A : Nat → Prop} {a0 : Cond} {pc : Nat} {rest : List Value} (l : Launch) (D : va_G) (ct : Nat → ClassId) (st : Nat → Nat) {b9 L9 : Nat} {xs : Nat → Int32} (C0 : LX p l R s m c b9 L9 xs D ct st A a0) (a : AD) {w : NW} {x : SC} {sl : Nat → Option (SD × NW)}  (j9 : Nat) (hj : j9 < 4) (d : SD) (wB : NW) (z1 : sl j9 = some (d, wB)) (z2 : x.kf j9 = some (d.ob 0)) (hc : wB.cS ≤ 512) (hro : cells ≤ R.cells ∧ slots ≤ R.slots) (hT : ST D ct A s a w x sl H locs) (hsz : ls.size = 13) (hcat : (rest.map fun v => v.category).sum ≤ 8) (hdg : decode code pc = .ok (.invokevirtual 73, 3))
    (kk : ∀ (w1 : NW) (H1 : Heap) (locs1 : List Loc), NW.like wB w1 → ST D ct A s a w1 x sl H1 locs1 → W p l e R s m #[Value.ref b9] below meth c H1 locs1 cells slots Q (F0 m (pc + 3) ls (rest)))
    : W p l e R s m #[Value.ref b9] below meth c H locs cells slots Q (F0 m pc ls (.int (nI j9) :: .ref (a.wa 0) :: rest)) := by
  obtain ⟨za, zb, y1, y2⟩ := zsplit ct sl (j9 := j9) hj
  have hP2 := hT.1
  have hD2 := hT.2.1
  rw [y1, z1] at hP2 hD2
  replace hP2 : va_P D classes ((lawW ct a w x ++ slotW ct d wB) ++ (zb ++ za)) H := va_outP hP2
  replace hD2 : va_D A ((lawW ct a w x ++ slotW ct d wB) ++ (zb ++ za)) := va_outD hD2
  exact v_goBack_ok l D ct st C0 a w x d wB j9 (by omega) z2 hc hro hP2 hD2 hT.2.2 hsz hcat hdg (fun  H1 locs1 hq hP1 hD1 hS1 => kk ((NW.mk ((TB.mk (wB.T.g) (wB.T.ig) (wB.T.pa) (wB.T.he) (wB.T.n) (wB.T.lf) (wB.T.rg) (wB.T.ns) ((fun j => if j < 32 then wB.T.M j else w.T.M j)) ((fun j => if j < 32 then wB.T.P j else w.T.P j)) ((fun j => if j < 32 then wB.T.E j else w.T.E j)) ((fun j => if j < 32 then wB.T.F j else w.T.F j)) ((fun j => if j < 4 then wB.T.td j else w.T.td j)) ((fun j => if j < 6 then wB.T.cm j else w.T.cm j)) ((fun j => if j < 32 then wB.T.gr j else w.T.gr j)) ((fun j => if j < 32 then wB.T.gs j else w.T.gs j)))) (wB.cS) (wB.gS) ((fun j => if j < wB.cS * 6 then wB.no j else w.no j)) ((TB.mk (wB.A.g) (wB.A.ig) (wB.A.pa) (wB.A.he) (wB.A.n) (wB.A.lf) (wB.A.rg) (wB.A.ns) ((fun j => if j < 32 then wB.A.M j else w.A.M j)) ((fun j => if j < 32 then wB.A.P j else w.A.P j)) ((fun j => if j < 32 then wB.A.E j else w.A.E j)) ((fun j => if j < 32 then wB.A.F j else w.A.F j)) ((fun j => if j < 4 then wB.A.td j else w.A.td j)) ((fun j => if j < 6 then wB.A.cm j else w.A.cm j)) ((fun j => if j < 32 then wB.A.gr j else w.A.gr j)) ((fun j => if j < 32 then wB.A.gs j else w.A.gs j)))) (wB.cnt) ((fun j => if j < 8 then wB.ck j else w.ck j)) ((fun j => if j < 8 then wB.cp j else w.cp j)) ((fun j => if j < 8 then wB.ca j else w.ca j)) ((fun j => if j < 8 then wB.cs j else w.cs j)) ((fun j => if j < 8 then wB.cg j else w.cg j)) (wB.nd) (wB.im) (wB.fr) (wB.lo) (wB.op) (wB.rs) ((fun j => if j < 21 then wB.hd j else w.hd j)) ((fun j => if j < 21 then wB.fl j else w.fl j)) ((fun j => if j < 21 then wB.cv j else w.cv j)) ((fun j => if j < 21 then wB.gt j else w.gt j)) (w.nh) (w.nf) (w.nc))) H1 locs1 ⟨⟨⟨rfl, rfl, rfl, rfl, rfl, rfl, rfl, rfl⟩, fun j hj => ⟨if_pos hj, if_pos hj, if_pos hj, if_pos hj⟩, fun j hj => ⟨if_pos hj, if_pos hj⟩, fun j hj => if_pos hj, fun j hj => if_pos hj⟩, ⟨⟨rfl, rfl, rfl, rfl, rfl, rfl, rfl, rfl⟩, fun j hj => ⟨if_pos hj, if_pos hj, if_pos hj, if_pos hj⟩, fun j hj => ⟨if_pos hj, if_pos hj⟩, fun j hj => if_pos hj, fun j hj => if_pos hj⟩, ⟨rfl, rfl, fun j hj => if_pos hj⟩, ⟨rfl, fun j hj => ⟨if_pos hj, if_pos hj, if_pos hj, if_pos hj, if_pos hj⟩⟩, ⟨rfl, rfl, rfl, rfl, rfl, rfl⟩, fun j hj => ⟨if_pos hj, if_pos hj, if_pos hj, if_pos hj⟩⟩ ⟨by rw [y1, z1]; exact va_inP hP1, by rw [y1, z1]; exact va_inD hD1, hS1⟩)
