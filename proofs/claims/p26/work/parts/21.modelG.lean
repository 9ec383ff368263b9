theorem rat1 {F : RF} {pl : Int} {i : Nat} (h : F 1 i ≤ pl) : i + 1 = r_at F pl (i + 1) := (if_pos h).symm
theorem rat0 {F : RF} {pl : Int} {i : Nat} (h : ¬ F 1 i ≤ pl) : r_at F pl i = r_at F pl (i + 1) := (if_neg h).symm
theorem ins_row {F G G1 : RF} {cnt r : Nat} {nw : Nat → Int} (hr : r ≤ cnt) (hc : cnt < 8) (h1 : ∀ a j, a < 5 → j < 8 → G a j = if r < j ∧ j ≤ cnt then F a (j - 1) else F a j) (h2 : ∀ a j, a < 5 → j < 8 → G1 a j = if j = r then nw a else G a j) : Ag (cnt + 1) G1 (r_ins F r nw) := by
  intro a j ha hj
  show _ = if j < r then F a j else if j = r then nw a else F a (j - 1)
  rw [h2 a j ha (by omega)]
  by_cases q : j = r
  · rw [if_pos q, if_neg (by omega), if_pos q]
  · rw [if_neg q, h1 a j ha (by omega)]
    by_cases q2 : j < r
    · rw [if_pos q2, if_neg (by omega)]
    · rw [if_neg q2, if_neg q, if_pos (by omega)]
theorem lp0 (n : Nat) (G : RF) (k : Nat) : lp 0 n G k = (n, G) := rfl
theorem lpS (r n : Nat) (G : RF) (k : Nat) : lp (r + 1) n G k = if mt_on G k then lp r (mt n G k).1 (mt n G k).2.1 (mt n G k).2.2 else lp r n G (k + 1) := rfl
theorem tkn_FB {q : Nat × RF} (h : FB q.1 q.2) (hn : q.1 ≤ 8) : ∀ i, FB (tkn i q).1 (tkn i q).2 ∧ (tkn i q).1 ≤ 8
  | 0 => ⟨h, hn⟩
  | i + 1 => tk1_FB (tkn_FB h hn i).1 (tkn_FB h hn i).2
/-- in the midst of the meetings of one tick -/
def TI (Q : Nat × RF) (r k : Nat) (x : Int64) (F : RF) : Prop := ∃ n G, x = lN n ∧ n ≤ 8 ∧ Ag n F G ∧ FB n G ∧ lp r n G k = tk1 Q ∧ (k + r + 1 = n ∨ (n = 0 ∧ r = 0 ∧ k = 0))
theorem TI.begin {Q : Nat × RF} {F G1 : RF} {x : Int64} (hF : Ag4 Q.1 F Q.2) (hn : Q.1 ≤ 8) (hB : FB Q.1 Q.2) (hx : x = lN (mv F Q.1).1) (h1 : Ag (mv F Q.1).1 G1 (mv F Q.1).2) : TI Q ((mv F Q.1).1 - 1) 0 x G1 := by
  have e := mv_cong hF Q.1 (Nat.le_refl _)
  rw [e] at hx h1 ⊢
  have l := mv_le Q.2 Q.1
  exact ⟨_, _, hx, by omega, h1, mv_FB hB _ (Nat.le_refl _), rfl, by omega⟩
theorem on_cong {n : Nat} {F G : RF} {k : Nat} (h : Ag n F G) (hk : k + 1 < n) : mt_on F k ↔ mt_on G k := by
  unfold mt_on
  rw [h 1 k (by omega) (by omega), h 1 (k + 1) (by omega) hk, h 4 k (by omega) (by omega), h 4 (k + 1) (by omega) hk]
theorem TI.here {Q : Nat × RF} {F : RF} {r k n : Nat} {x : Int64} (h : TI Q r k x F) (hx : x = lN n) (hn : n ≤ 8) (hk : k + 1 < n) : FB n F ∧ 0 < r := by
  obtain ⟨m, G, e1, e2, e3, e4, e5, e6⟩ := h
  have e := e1.symm.trans hx
  rw [lN_eq (by omega) (by omega)] at e
  subst e
  exact ⟨e4.cong e3.symm.four, by omega⟩
theorem TI.meet {Q : Nat × RF} {F F1 : RF} {r k n : Nat} {x y : Int64} (h : TI Q r k x F) (hx : x = lN n) (hn : n ≤ 8) (hk : k + 1 < n) (ho : mt_on F k) (hy : y = lN (mt n F k).1) (h1 : Ag (mt n F k).1 F1 (mt n F k).2.1) : TI Q (r - 1) (mt n F k).2.2 y F1 := by
  obtain ⟨m, G, e1, e2, e3, e4, e5, e6⟩ := h
  have e := e1.symm.trans hx
  rw [lN_eq (by omega) (by omega)] at e
  subst e
  obtain ⟨r2, rfl⟩ : ∃ r2, r = r2 + 1 := ⟨r - 1, by omega⟩
  rw [lpS, if_pos ((on_cong e3 hk).mp ho)] at e5
  obtain ⟨c1, c2, c3⟩ := mt_cong e3 hk
  obtain ⟨i1, i2, i3, i4⟩ := mt_ix (F := G) hk hn
  rw [c2]
  exact ⟨_, _, by rw [hy, c1], i4, (h1.trans c3).trans (by rw [c1]; exact fun _ _ _ _ => rfl) |> fun z => by rw [c1] at z; exact z, mt_FB e4 hk, e5, Or.inl (by show (mt m G k).2.2 + r2 + 1 = _; omega)⟩
theorem TI.on {Q : Nat × RF} {F : RF} {r k n : Nat} {x : Int64} (h : TI Q r k x F) (hx : x = lN n) (hn : n ≤ 8) (hk : k + 1 < n) (ho : ¬ mt_on F k) : TI Q (r - 1) (k + 1) x F := by
  obtain ⟨m, G, e1, e2, e3, e4, e5, e6⟩ := h
  have e := e1.symm.trans hx
  rw [lN_eq (by omega) (by omega)] at e
  subst e
  obtain ⟨r2, rfl⟩ : ∃ r2, r = r2 + 1 := ⟨r - 1, by omega⟩
  rw [lpS, if_neg (fun z => ho ((on_cong e3 hk).mpr z))] at e5
  exact ⟨_, _, e1, e2, e3, e4, e5, Or.inl (by show k + 1 + r2 + 1 = _; omega)⟩
theorem TI.fin {Q : Nat × RF} {F : RF} {r k n : Nat} {x : Int64} (h : TI Q r k x F) (hx : x = lN n) (hn : n ≤ 8) (hk : n ≤ k + 1) : x = lN (tk1 Q).1 ∧ Ag (tk1 Q).1 F (tk1 Q).2 := by
  obtain ⟨m, G, e1, e2, e3, e4, e5, e6⟩ := h
  have e := e1.symm.trans hx
  rw [lN_eq (by omega) (by omega)] at e
  subst e
  obtain rfl : r = 0 := by omega
  rw [← e5, lp0]
  exact ⟨e1, e3⟩
theorem TI.cnt {Q : Nat × RF} {F : RF} {r k : Nat} {x : Int64} (h : TI Q r k x F) : ∃ n, x = lN n ∧ n ≤ 8 ∧ (k + 1 < n → k + r + 1 = n) := by
  obtain ⟨m, G, e1, e2, e3, e4, e5, e6⟩ := h
  exact ⟨m, e1, e2, fun z => by omega⟩

