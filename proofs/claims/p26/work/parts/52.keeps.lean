/-! the law's invariant, kept by each command -/
section RN
variable {S s1 : Nat → Int64} {w : NW} {k : Nat}
theorem Rel.gas {g9 : Nat} {no1 : Nat → Int32} (h : Rel S w k) (hk : k < 512) (hg : g9 < 3) (hq : (no1 (w.cS * 6) = 1 ∧ no1 (w.cS * 6 + 1) = (nI g9) ∧ no1 (w.cS * 6 + 2) = 0 ∧ no1 (w.cS * 6 + 3) = 0 ∧ no1 (w.cS * 6 + 4) = 0 ∧ no1 (w.cS * 6 + 5) = 0) ∧ ∀ j, j < w.cS * 6 → no1 j = w.no j) (hm : s1 = vp_updL S 0 (lN g9)) : Rel s1 (NW.mk ((TB.mk (g9) (w.T.ig) (w.T.pa) (w.T.he) (w.T.n) (w.T.lf) (w.T.rg) (w.T.ns) (w.T.M) (w.T.P) (w.T.E) (w.T.F) (w.T.td) (w.T.cm) (w.T.gr) (w.T.gs))) (w.cS + 1) (w.gS) (no1) (w.A) (w.cnt) (w.ck) (w.cp) (w.ca) (w.cs) (w.cg) (w.nd) (w.im) (w.fr) (w.lo) (w.op) (w.rs) (w.hd) (w.fl) (w.cv) (w.gt) (w.nh) (w.nf) (w.nc)) (k + 1) := by
  have e0 : s1 0 = lN g9 := by rw [hm, pk_uLs]
  have e : ∀ j, j ≠ 0 → s1 j = S j := fun j hj => by rw [hm, pk_uLn hj]
  obtain ⟨⟨h1, ⟨h21, h22, h23⟩, h3, h4⟩, ⟨a1, a2, a3⟩, hR, hP⟩ := h
  refine ⟨⟨nt_gas h1 hg e0 e, ⟨(e 7 (by omega)).trans h21, fun j hj => (h22 j hj).trans (e _ (by omega)).symm, fun j hj => ?_⟩, fun j hj => (h3 j hj).trans (e _ (by omega)).symm, h4⟩, ⟨a1.add (by omega) hq (Or.inr (Or.inl ⟨rfl, g9, hg, rfl, e0, e⟩)), a2, by show w.cS + 1 ≤ k + 1; omega⟩, ?_, ?_⟩
  · obtain ⟨q1, q2⟩ := h23 j hj
    exact ⟨q1.trans (e _ (by omega)).symm, q2.trans (e _ (by omega)).symm⟩
  · have := RelR.cong hR (S1 := s1) (fun j _ _ => e j (by omega))
    exact this
  · have := RelP.cong hP (S1 := s1) (fun j _ _ => e j (by omega))
    exact this
theorem Rel.ignition {te pa he : Nat} {no1 : Nat → Int32} (h : Rel S w k) (hk : k < 512) (h1 : te ≤ 100000) (h2 : pa ≤ 100) (h3 : he ≤ 1000) (hq : (no1 (w.cS * 6) = 2 ∧ no1 (w.cS * 6 + 1) = (nI te) ∧ no1 (w.cS * 6 + 2) = (nI pa) ∧ no1 (w.cS * 6 + 3) = (nI he) ∧ no1 (w.cS * 6 + 4) = 0 ∧ no1 (w.cS * 6 + 5) = 0) ∧ ∀ j, j < w.cS * 6 → no1 j = w.no j) (hm : s1 = vp_updL (vp_updL (vp_updL S 1 (lN te)) 2 (lN pa)) 3 (lN he)) : Rel s1 (NW.mk ((TB.mk (w.T.g) (nI te) (nI pa) (nI he) (w.T.n) (w.T.lf) (w.T.rg) (w.T.ns) (w.T.M) (w.T.P) (w.T.E) (w.T.F) (w.T.td) (w.T.cm) (w.T.gr) (w.T.gs))) (w.cS + 1) (w.gS) (no1) (w.A) (w.cnt) (w.ck) (w.cp) (w.ca) (w.cs) (w.cg) (w.nd) (w.im) (w.fr) (w.lo) (w.op) (w.rs) (w.hd) (w.fl) (w.cv) (w.gt) (w.nh) (w.nf) (w.nc)) (k + 1) := by
  have e1 : s1 1 = lN te := by rw [hm, pk_uLn (by decide), pk_uLn (by decide), pk_uLs]
  have e2 : s1 2 = lN pa := by rw [hm, pk_uLn (by decide), pk_uLs]
  have e3 : s1 3 = lN he := by rw [hm, pk_uLs]
  have e : ∀ j, j ≠ 1 → j ≠ 2 → j ≠ 3 → s1 j = S j := fun j q1 q2 q3 => by rw [hm, pk_uLn q3, pk_uLn q2, pk_uLn q1]
  obtain ⟨⟨r1, ⟨r21, r22, r23⟩, r3, r4⟩, ⟨a1, a2, a3⟩, hR, hP⟩ := h
  obtain ⟨t1, t2, t3, t4, ⟨t51, t52⟩, ⟨t61, t62⟩, -, -, t9⟩ := r1.1
  have hT : TS s1 w.T.g w.T.n w.T.lf w.T.rg := ⟨t1, (e _ (by omega) (by omega) (by omega)).trans t2, t3, (e _ (by omega) (by omega) (by omega)).trans t4, ⟨t51, (e _ (by omega) (by omega) (by omega)).trans t52⟩, ⟨t61, (e _ (by omega) (by omega) (by omega)).trans t62⟩, by rw [e2, lN_toInt (by omega)]; omega, by rw [e3, lN_toInt (by omega)]; omega, fun c hc => (t9 c hc).cong (e _ (by omega) (by omega) (by omega)) (e _ (by omega) (by omega) (by omega)) (e _ (by omega) (by omega) (by omega)) (e _ (by omega) (by omega) (by omega))⟩
  have hi : s1 1 = (nI te).toInt64 ∧ s1 2 = (nI pa).toInt64 ∧ s1 3 = (nI he).toInt64 := ⟨e1.trans (nI_l (by omega)).symm, e2.trans (nI_l (by omega)).symm, e3.trans (nI_l (by omega)).symm⟩
  refine ⟨⟨nt_ign r1 ⟨_, hT⟩ hi e, ⟨(e 7 (by omega) (by omega) (by omega)).trans r21, fun j hj => (r22 j hj).trans (e _ (by omega) (by omega) (by omega)).symm, fun j hj => ?_⟩, fun j hj => (r3 j hj).trans (e _ (by omega) (by omega) (by omega)).symm, r4⟩, ⟨a1.add (by omega) hq (Or.inr (Or.inr (Or.inl ⟨rfl, ⟨_, hT⟩, hi, e⟩))), a2, by show w.cS + 1 ≤ k + 1; omega⟩, ?_, ?_⟩
  · obtain ⟨q1, q2⟩ := r23 j hj
    exact ⟨q1.trans (e _ (by omega) (by omega) (by omega)).symm, q2.trans (e _ (by omega) (by omega) (by omega)).symm⟩
  · have := RelR.cong hR (S1 := s1) (fun j _ _ => e j (by omega) (by omega) (by omega))
    exact this
  · have := RelP.cong hP (S1 := s1) (fun j _ _ => e j (by omega) (by omega) (by omega))
    exact this
theorem Chn.keeps {t : Int64} {g n lft rgt m : Nat} {T : Nat → Int64} (h : Chn t g n lft rgt S m T) : ∀ j, j < 7 ∨ (142 ≤ j ∧ j < 146) ∨ 210 ≤ j → T j = S j := by
  obtain ⟨X9, x0, x1, x2⟩ := h
  subst x0 x1
  intro j hj
  have : ∀ i, i ≤ m → X9 i j = X9 0 j := by
    intro i
    induction i with
    | zero => intro _; rfl
    | succ i ih => intro hi; exact ((x2 i (by omega)).2.2.2.2.2.2 j hj).trans (ih (by omega))
  exact this m (Nat.le_refl _)
theorem Chn.none {t : Int64} {g n lft rgt : Nat} {T : Nat → Int64} (h : Chn t g n lft rgt S 0 T) : T = S := by
  obtain ⟨X9, x0, x1, -⟩ := h
  exact x1.symm.trans x0
theorem Rel.step {t9 m9 k9 ns1 c9 kM : Nat} {M1 P1 E1 F1 cm1 gr1 : Nat → Int64} {gs1 : Nat → Int32} {no1 : Nat → Int32} (h : Rel S w k) (hk : k < 512) (ht : 1 ≤ t9 ∧ t9 ≤ 400) (hm9 : 1 ≤ m9 ∧ m9 ≤ 50) (hns : w.T.ns + m9 ≤ 300)
    (hq : StI (lN t9) w.T.g w.T.ig w.T.pa w.T.he w.T.n w.T.lf w.T.rg m9 w.T.ns w.T.M w.T.P w.T.E w.T.F w.T.cm w.T.gr w.T.gs k9 ns1 M1 P1 E1 F1 cm1 gr1 gs1 ∧ (m9 ≤ k9 ∨ ¬ w_ok (lN t9) w.T.g M1 P1 E1 F1 w.T.n w.T.lf w.T.rg w.T.ig.toInt64 w.T.pa.toInt64 w.T.he.toInt64) ∧ k9 ≤ m9 ∧ ((k9 = 0 ∧ c9 = w.cS ∧ no1 = w.no) ∨ (0 < k9 ∧ c9 = w.cS + 1 ∧ ((no1 (w.cS * 6) = 3 ∧ no1 (w.cS * 6 + 1) = (nI t9) ∧ no1 (w.cS * 6 + 2) = (nI k9) ∧ no1 (w.cS * 6 + 3) = 0 ∧ no1 (w.cS * 6 + 4) = 0 ∧ no1 (w.cS * 6 + 5) = 0) ∧ ∀ j, j < w.cS * 6 → no1 j = w.no j))))
    (hm : TS s1 w.T.g w.T.n w.T.lf w.T.rg ∧ Chn (lN t9) w.T.g w.T.n w.T.lf w.T.rg S kM s1 ∧ kM ≤ m9 ∧ (kM < m9 → ¬ sOk (lN t9) w.T.g w.T.n w.T.lf w.T.rg s1) ∧ s1 7 = lN (w.T.ns + kM)) :
    k9 = kM ∧ Rel s1 (NW.mk ((TB.mk (w.T.g) (w.T.ig) (w.T.pa) (w.T.he) (w.T.n) (w.T.lf) (w.T.rg) (ns1) (M1) (P1) (E1) (F1) (w.T.td) (cm1) (gr1) (gs1))) (c9) (w.gS) (no1) (w.A) (w.cnt) (w.ck) (w.cp) (w.ca) (w.cs) (w.cg) (w.nd) (w.im) (w.fr) (w.lo) (w.op) (w.rs) (w.hd) (w.fl) (w.cv) (w.gt) (w.nh) (w.nf) (w.nc)) (k + 1) := by
  obtain ⟨⟨r1, r2, r3, r4⟩, ⟨a1, a2, a3⟩, hR, hP⟩ := h
  obtain ⟨hm1, hm2, hm3, hm4, hm5⟩ := hm
  obtain ⟨q1, q2, q3, q4⟩ := hq
  obtain ⟨f1, f2, f3⟩ := q1.fin q2 r1 hm2 hm3 hm4
  subst f1
  have e := hm2.keeps
  refine ⟨rfl, ⟨f2, f3 r2, fun j hj => (r3 j hj).trans (e _ (by omega)).symm, by show ns1 ≤ 300; rw [q1.2.1]; omega⟩, ⟨?_, a2, ?_⟩, ?_, ?_⟩
  · rcases q4 with ⟨rfl, rfl, rfl⟩ | ⟨z0, rfl, z1⟩
    · rw [hm2.none]; exact a1
    · refine a1.add (by omega) z1 (Or.inr (Or.inr (Or.inr ⟨rfl, t9, k9, rfl, rfl, ht, by omega, fun g hg => ?_⟩)))
      have := hg.g0 r1.1.2.1 r1.1.1
      subst this
      exact hm2
  · show c9 ≤ k + 1
    rcases q4 with ⟨-, rfl, -⟩ | ⟨-, rfl, -⟩ <;> omega
  · have := RelR.cong hR (S1 := s1) (fun j _ _ => e j (by omega))
    exact this
  · have := RelP.cong hP (S1 := s1) (fun j _ _ => e j (by omega))
    exact this
theorem fS_any {S Bf B9 : Nat → Int64} {a j : Nat} (ha : a < 4) : fS S Bf a j = fS S B9 a j := by
  rcases (show a = 0 ∨ a = 1 ∨ a = 2 ∨ a = 3 by omega) with rfl | rfl | rfl | rfl <;> simp [fS]
theorem tkn_cong {n : Nat} {F G : RF} (h : Ag4 n F G) (hn : n ≤ 8) : ∀ i, tkn (i + 1) (n, F) = tkn (i + 1) (n, G)
  | 0 => tk1_cong h hn
  | i + 1 => by
    show tk1 (tkn (i + 1) (n, F)) = tk1 (tkn (i + 1) (n, G))
    rw [tkn_cong h hn i]
theorem Rel.tick {tt c9 : Nat} {ck1 cp1 ca1 cs1 cg1 : Nat → Int32} {Bf before1 : Nat → Int64} (h : Rel S w k) (ht : 1 ≤ tt) (hq : TkI (w.cnt, w.row) tt c9 (fR ck1 cp1 cs1 cg1 ca1)) (hm : s1 210 = lN (tkn tt (w.cnt, fS S Bf)).1 ∧ Ag4 (tkn tt (w.cnt, fS S Bf)).1 (fS s1 before1) (tkn tt (w.cnt, fS S Bf)).2 ∧ oth s1 S) :
    c9 = (tkn tt (w.cnt, fS S Bf)).1 ∧ Rel s1 (NW.mk (w.T) (w.cS) (w.gS) (w.no) (w.A) (c9) (ck1) (cp1) (ca1) (cs1) (cg1) (w.nd) (w.im) (w.fr) (w.lo) (w.op) (w.rs) (w.hd) (w.fl) (w.cv) (w.gt) (w.nh) (w.nf) (w.nc)) (k + 1) := by
  obtain ⟨hT, hA, ⟨b1, b2, b3, b4⟩, hP⟩ := h
  obtain ⟨m1, m2, m3⟩ := hm
  have c0 : (tkn tt (w.cnt, w.row)).1 = (tkn tt (w.cnt, fS S Bf)).1 ∧ Ag4 (tkn tt (w.cnt, w.row)).1 (tkn tt (w.cnt, w.row)).2 (tkn tt (w.cnt, fS S Bf)).2 := by
    obtain ⟨i, rfl⟩ : ∃ i, tt = i + 1 := ⟨tt - 1, by omega⟩
    rw [tkn_cong (b4 Bf) b2 i]
    exact ⟨rfl, fun _ _ _ _ => rfl⟩
  obtain ⟨q1, q2⟩ := hq
  have hb := (TkI.bd ⟨q1, q2⟩ b3 b2 : c9 ≤ 8 ∧ FB c9 _)
  refine ⟨q1.trans c0.1, RelT.cong hT (fun j hj => m3 j (by omega)), ?_, ⟨m1.trans (congrArg lN (q1.trans c0.1).symm), hb.1, hb.2, fun B9 a j ha hj => ?_⟩, ?_⟩
  · have := RelA.cong hA (S1 := s1) (fun j hj => m3 j (by omega)) (Nat.le_succ k)
    exact this
  · have x1 := q2 a j ha hj
    have x2 := c0.2 a j ha (by rw [← q1]; exact hj)
    have x3 := m2 a j ha (by rw [← c0.1, ← q1]; exact hj)
    exact x1.trans (x2.trans (x3.symm.trans (fS_any ha)))
  · have := RelP.cong hP (S1 := s1) (fun j _ _ => m3 j (by omega))
    exact this
theorem r_at_cong {F G : RF} {pl : Int} {n : Nat} (h : Ag4 n F G) : ∀ i, i ≤ n → r_at F pl i = r_at G pl i
  | 0, _ => rfl
  | i + 1, hi => by
    show (if F 1 i ≤ pl then i + 1 else r_at F pl i) = (if G 1 i ≤ pl then i + 1 else r_at G pl i)
    rw [r_at_cong h i (by omega), h 1 i (by omega) (by omega)]
theorem Rel.front {kd pl tg : Nat} {sp : Int32} {ck1 cp1 ca1 cs1 cg1 : Nat → Int32} {Bf before1 : Nat → Int64} (h : Rel S w k) (hc : w.cnt < 8) (h1 : kd ≤ 2) (h2 : pl ≤ 100000) (h3 : w_in sp.toInt64 (-900) 900) (h4 : 1 ≤ tg ∧ tg ≤ 900) (hq : Ag (w.cnt + 1) (fR ck1 cp1 cs1 cg1 ca1) (r_ins w.row (r_at w.row (nI pl).toInt w.cnt) (r_new (nI kd).toInt (nI pl).toInt sp.toInt (nI tg).toInt)))
    (hm : Ag (w.cnt + 1) (fS s1 before1) (r_ins (fS S Bf) (r_at (fS S Bf) (lN pl).toInt w.cnt) (r_new (lN kd).toInt (lN pl).toInt sp.toInt64.toInt (lN tg).toInt)) ∧ s1 210 = lN (w.cnt + 1) ∧ oth s1 S) :
    r_at w.row (nI pl).toInt w.cnt = r_at (fS S Bf) (lN pl).toInt w.cnt ∧ Rel s1 (NW.mk (w.T) (w.cS) (w.gS) (w.no) (w.A) (w.cnt + 1) (ck1) (cp1) (ca1) (cs1) (cg1) (w.nd) (w.im) (w.fr) (w.lo) (w.op) (w.rs) (w.hd) (w.fl) (w.cv) (w.gt) (w.nh) (w.nf) (w.nc)) (k + 1) := by
  obtain ⟨hT, hA, ⟨b1, b2, b3, b4⟩, hP⟩ := h
  obtain ⟨m1, m2, m3⟩ := hm
  rw [nI_toInt (by omega), nI_toInt (by omega), nI_toInt (by omega)] at hq
  rw [lN_toInt (by omega), lN_toInt (by omega), lN_toInt (by omega), Int32.toInt_toInt64] at m1
  rw [nI_toInt (by omega), lN_toInt (by omega)]
  have er : r_at w.row (pl : Int) w.cnt = r_at (fS S Bf) (pl : Int) w.cnt := r_at_cong (b4 Bf) _ (Nat.le_refl _)
  have hsp : -900 ≤ sp.toInt ∧ sp.toInt ≤ 900 := by
    have q1 := Int64.le_iff_toInt_le.mp h3.1
    have q2 := Int64.le_iff_toInt_le.mp h3.2
    rw [Int32.toInt_toInt64] at q1 q2
    exact ⟨q1, q2⟩
  have key : FB (w.cnt + 1) (r_ins w.row (r_at w.row (pl : Int) w.cnt) (r_new (kd : Int) (pl : Int) sp.toInt (tg : Int))) := by
    intro j hj
    have hr := r_at_le w.row (pl : Int) w.cnt
    unfold r_ins
    by_cases q : j < r_at w.row (pl : Int) w.cnt
    · simp only [if_pos q]; exact b3 j (by omega)
    · by_cases q2 : j = r_at w.row (pl : Int) w.cnt
      · simp only [if_neg q, if_pos q2]
        unfold r_new
        simp only [if_pos, show (1 : Nat) ≠ 0 by decide, show (2 : Nat) ≠ 0 by decide, show (3 : Nat) ≠ 0 by decide, show (2 : Nat) ≠ 1 by decide, show (3 : Nat) ≠ 1 by decide, show (3 : Nat) ≠ 2 by decide, if_false]
        omega
      · simp only [if_neg q, if_neg q2]; exact b3 (j - 1) (by omega)
  refine ⟨er, RelT.cong hT (fun j hj => m3 j (by omega)), ?_, ⟨m2, by show w.cnt + 1 ≤ 8; omega, FB.cong key hq.symm.four, fun B9 a j ha hj => ?_⟩, ?_⟩
  · have := RelA.cong hA (S1 := s1) (fun j hj => m3 j (by omega)) (Nat.le_succ k)
    exact this
  · have x1 := hq a j (by omega) hj
    have x3 := m1 a j (by omega) hj
    refine x1.trans (Eq.trans ?_ (x3.symm.trans (fS_any ha)))
    rw [er]
    have hr := r_at_le (fS S Bf) (pl : Int) w.cnt
    unfold r_ins
    by_cases q : j < r_at (fS S Bf) (pl : Int) w.cnt
    · simp only [if_pos q]; exact b4 Bf a j ha (by omega)
    · by_cases q2 : j = r_at (fS S Bf) (pl : Int) w.cnt
      · simp only [if_neg q, if_pos q2]
      · simp only [if_neg q, if_neg q2]
        have hj' : j < w.cnt + 1 := hj
        exact b4 Bf a (j - 1) ha (by omega)
  · have := RelP.cong hP (S1 := s1) (fun j _ _ => m3 j (by omega))
    exact this
theorem Rel.newpipe {re im fr lo hd9 : Nat} {fl9 : Int32} {hd1 fl1 cv1 gt1 : Nat → Int64} (h : Rel S w k) (h1 : 1 ≤ re ∧ re ≤ 20) (h2 : 1 ≤ im ∧ im ≤ 50) (h3 : fr ≤ 20) (h4 : 1 ≤ lo ∧ lo ≤ 50) (h5 : hd9 ≤ 2000) (h6 : w_in fl9.toInt64 (-100) 100) (hq : ∀ j, j ≤ re → hd1 j = lN hd9 ∧ fl1 j = fl9.toInt64 ∧ cv1 j = 0 ∧ gt1 j = lN hd9)
    (hm : s1 243 = 1 ∧ s1 244 = lN re ∧ s1 245 = lN im ∧ s1 246 = lN fr ∧ s1 247 = lN lo ∧ s1 248 = lN hd9 ∧ s1 249 = lN 100 ∧ (∀ j, j < 21 → s1 (250 + j) = lN hd9 ∧ s1 (271 + j) = fl9.toInt64 ∧ s1 (292 + j) = 0 ∧ s1 (313 + j) = lN hd9) ∧ ∀ j, j < 243 → s1 j = S j) : Rel s1 (NW.mk (w.T) (w.cS) (w.gS) (w.no) (w.A) (w.cnt) (w.ck) (w.cp) (w.ca) (w.cs) (w.cg) (re + 1) (im) (fr) (lo) (100) (hd9) (hd1) (fl1) (cv1) (gt1) (w.nh) (w.nf) (w.nc)) (k + 1) := by
  obtain ⟨hT, hA, hR, -⟩ := h
  obtain ⟨m1, m2, m3, m4, m5, m6, m7, m8, m9⟩ := hm
  refine ⟨RelT.cong hT (fun j hj => m9 j (by omega)), ?_, ?_, Or.inr ⟨re, rfl, ⟨m1, ⟨m2, h1⟩, ⟨m3, h2⟩, ⟨m4, h3⟩, ⟨m5, h4⟩, ⟨m6, h5⟩, ⟨m7, Nat.le_refl _⟩, fun j hj => ?_⟩, fun j hj => ?_⟩⟩
  · have := RelA.cong hA (S1 := s1) (fun j hj => m9 j (by omega)) (Nat.le_succ k)
    exact this
  · have := RelR.cong hR (S1 := s1) (fun j _ hj => m9 j hj)
    exact this
  · obtain ⟨q1, q2, -⟩ := m8 j (by omega)
    rw [q1, q2]
    refine ⟨⟨?_, ?_⟩, ?_, ?_⟩
    · apply Int64.le_iff_toInt_le.mpr; rw [lN_toInt (by omega)]; have : (-1000000 : Int64).toInt = -1000000 := by decide
      omega
    · apply Int64.le_iff_toInt_le.mpr; rw [lN_toInt (by omega)]; have : (1000000 : Int64).toInt = 1000000 := by decide
      omega
    · have a1 := Int64.le_iff_toInt_le.mp h6.1
      apply Int64.le_iff_toInt_le.mpr
      have e1 : (-100000 : Int64).toInt = -100000 := by decide
      have e2 : (-100 : Int64).toInt = -100 := by decide
      omega
    · have a1 := Int64.le_iff_toInt_le.mp h6.2
      apply Int64.le_iff_toInt_le.mpr
      have e1 : (100000 : Int64).toInt = 100000 := by decide
      have e2 : (100 : Int64).toInt = 100 := by decide
      omega
  · obtain ⟨q1, q2, q3, q4⟩ := m8 j (by omega)
    obtain ⟨p1, p2, p3, p4⟩ := hq j hj
    exact ⟨p1.trans q1.symm, p2.trans q2.symm, p3.trans q3.symm, p4.trans q4.symm⟩
theorem TRp.valve {la im fr lo op rs o9 : Nat} {hd fl cv gt : Nat → Int64} (h : TRp S la im fr lo op rs hd fl cv gt) (ho : o9 ≤ 100) (hm : s1 = vp_updL S 249 (lN o9)) : TRp s1 la im fr lo o9 rs hd fl cv gt := by
  have e : ∀ j, j ≠ 249 → s1 j = S j := fun j hj => by rw [hm, pk_uLn hj]
  obtain ⟨⟨h1, ⟨h2, h21, h22⟩, ⟨h3, h31⟩, ⟨h4, h41⟩, ⟨h5, h51⟩, ⟨h6, h61⟩, -, h8⟩, hq⟩ := h
  refine ⟨⟨(e _ (by omega)).trans h1, ⟨(e _ (by omega)).trans h2, h21, h22⟩, ⟨(e _ (by omega)).trans h3, h31⟩, ⟨(e _ (by omega)).trans h4, h41⟩, ⟨(e _ (by omega)).trans h5, h51⟩, ⟨(e _ (by omega)).trans h6, h61⟩, ⟨by rw [hm, pk_uLs], ho⟩, fun k hk => ?_⟩, fun k hk => ?_⟩
  · rw [e _ (by omega), e _ (by omega)]
    exact h8 k hk
  · obtain ⟨q1, q2, q3, q4⟩ := hq k hk
    exact ⟨q1.trans (e _ (by omega)).symm, q2.trans (e _ (by omega)).symm, q3.trans (e _ (by omega)).symm, q4.trans (e _ (by omega)).symm⟩
theorem TRp.reservoir {la im fr lo op rs o9 : Nat} {hd fl cv gt : Nat → Int64} (h : TRp S la im fr lo op rs hd fl cv gt) (ho : o9 ≤ 2000) (hm : s1 = vp_updL S 248 (lN o9)) : TRp s1 la im fr lo op o9 hd fl cv gt := by
  have e : ∀ j, j ≠ 248 → s1 j = S j := fun j hj => by rw [hm, pk_uLn hj]
  obtain ⟨⟨h1, ⟨h2, h21, h22⟩, ⟨h3, h31⟩, ⟨h4, h41⟩, ⟨h5, h51⟩, -, ⟨h7, h71⟩, h8⟩, hq⟩ := h
  refine ⟨⟨(e _ (by omega)).trans h1, ⟨(e _ (by omega)).trans h2, h21, h22⟩, ⟨(e _ (by omega)).trans h3, h31⟩, ⟨(e _ (by omega)).trans h4, h41⟩, ⟨(e _ (by omega)).trans h5, h51⟩, ⟨by rw [hm, pk_uLs], ho⟩, ⟨(e _ (by omega)).trans h7, h71⟩, fun k hk => ?_⟩, fun k hk => ?_⟩
  · rw [e _ (by omega), e _ (by omega)]
    exact h8 k hk
  · obtain ⟨q1, q2, q3, q4⟩ := hq k hk
    exact ⟨q1.trans (e _ (by omega)).symm, q2.trans (e _ (by omega)).symm, q3.trans (e _ (by omega)).symm, q4.trans (e _ (by omega)).symm⟩
theorem Rel.valve {o9 la : Nat} (h : Rel S w k) (ho : o9 ≤ 100) (hn : w.nd = la + 1) (hp : TRp S la w.im w.fr w.lo w.op w.rs w.hd w.fl w.cv w.gt) (hm : s1 = vp_updL S 249 (lN o9)) : Rel s1 (NW.mk (w.T) (w.cS) (w.gS) (w.no) (w.A) (w.cnt) (w.ck) (w.cp) (w.ca) (w.cs) (w.cg) (w.nd) (w.im) (w.fr) (w.lo) (o9) (w.rs) (w.hd) (w.fl) (w.cv) (w.gt) (w.nh) (w.nf) (w.nc)) (k + 1) := by
  have e : ∀ j, j ≠ 249 → s1 j = S j := fun j hj => by rw [hm, pk_uLn hj]
  obtain ⟨hT, hA, hR, -⟩ := h
  refine ⟨RelT.cong hT (fun j hj => e j (by omega)), ?_, ?_, Or.inr ⟨la, hn, hp.valve ho hm⟩⟩
  · have := RelA.cong hA (S1 := s1) (fun j hj => e j (by omega)) (Nat.le_succ k)
    exact this
  · have := RelR.cong hR (S1 := s1) (fun j _ hj => e j (by omega))
    exact this
theorem Rel.reservoir {o9 la : Nat} (h : Rel S w k) (ho : o9 ≤ 2000) (hn : w.nd = la + 1) (hp : TRp S la w.im w.fr w.lo w.op w.rs w.hd w.fl w.cv w.gt) (hm : s1 = vp_updL S 248 (lN o9)) : Rel s1 (NW.mk (w.T) (w.cS) (w.gS) (w.no) (w.A) (w.cnt) (w.ck) (w.cp) (w.ca) (w.cs) (w.cg) (w.nd) (w.im) (w.fr) (w.lo) (w.op) (o9) (w.hd) (w.fl) (w.cv) (w.gt) (w.nh) (w.nf) (w.nc)) (k + 1) := by
  have e : ∀ j, j ≠ 248 → s1 j = S j := fun j hj => by rw [hm, pk_uLn hj]
  obtain ⟨hT, hA, hR, -⟩ := h
  refine ⟨RelT.cong hT (fun j hj => e j (by omega)), ?_, ?_, Or.inr ⟨la, hn, hp.reservoir ho hm⟩⟩
  · have := RelA.cong hA (S1 := s1) (fun j hj => e j (by omega)) (Nat.le_succ k)
    exact this
  · have := RelR.cong hR (S1 := s1) (fun j _ hj => e j (by omega))
    exact this
theorem PChn.keeps {la m : Nat} {T : Nat → Int64} (h : PChn la S m T) : ∀ j, j < 250 → T j = S j := by
  obtain ⟨X9, x0, x1, x2⟩ := h
  subst x0 x1
  intro j hj
  have : ∀ i, i ≤ m → X9 i j = X9 0 j := by
    intro i
    induction i with
    | zero => intro _; rfl
    | succ i ih => intro hi; exact ((x2 i (by omega)).2.2 j hj).trans (ih (by omega))
  exact this m (Nat.le_refl _)
theorem Rel.flow {la tk k9 kM : Nat} {hd1 fl1 cv1 gt1 nh1 nf1 nc1 : Nat → Int64} (h : Rel S w k) (hn : w.nd = la + 1) (hp : TRp S la w.im w.fr w.lo w.op w.rs w.hd w.fl w.cv w.gt)
    (hq : PtI la w.im w.fr w.lo w.op w.rs tk w.hd w.fl w.cv w.gt k9 hd1 fl1 cv1 gt1 ∧ (tk ≤ k9 ∨ ¬ p_ok hd1 fl1 cv1 (lN w.im) (lN w.fr) (lN w.lo) (lN w.rs) (lN w.op) la) ∧ k9 ≤ tk)
    (hm : PS s1 la w.im w.fr w.lo w.rs w.op ∧ PChn la S kM s1 ∧ kM ≤ tk ∧ (kM < tk → ¬ sPok s1 la)) : k9 = kM ∧ Rel s1 (NW.mk (w.T) (w.cS) (w.gS) (w.no) (w.A) (w.cnt) (w.ck) (w.cp) (w.ca) (w.cs) (w.cg) (w.nd) (w.im) (w.fr) (w.lo) (w.op) (w.rs) (hd1) (fl1) (cv1) (gt1) (nh1) (nf1) (nc1)) (k + 1) := by
  obtain ⟨hT, hA, hR, -⟩ := h
  obtain ⟨m1, m2, m3, m4⟩ := hm
  have e := m2.keeps
  obtain ⟨f1, f2⟩ := hq.1.fin hq.2.1 hp m2 m3 m4
  refine ⟨f1, RelT.cong hT (fun j hj => e j (by omega)), ?_, ?_, Or.inr ⟨la, hn, f2⟩⟩
  · have := RelA.cong hA (S1 := s1) (fun j hj => e j (by omega)) (Nat.le_succ k)
    exact this
  · have := RelR.cong hR (S1 := s1) (fun j _ hj => e j (by omega))
    exact this
end RN

