/-! the class's tube beside the reference's numbers -/
def CEq (n : Nat) (M P E F M' P' E' F' : Nat → Int64) : Prop := ∀ j, j < n → M j = M' j ∧ P j = P' j ∧ E j = E' j ∧ F j = F' j
section CQ
variable {g n lft rgt b c k : Nat} {t ign part heat : Int64} {M P E F M' P' E' F' : Nat → Int64}
theorem cq_sp (h : CEq n M P E F M' P' E' F') (hk : k < n) : w_sp M P k = w_sp M' P' k := by unfold w_sp; rw [(h k hk).1, (h k hk).2.1]
theorem cq_pr (h : CEq n M P E F M' P' E' F') (hk : k < n) : w_pr g M P E k = w_pr g M' P' E' k := by unfold w_pr; rw [(h k hk).1, (h k hk).2.1, (h k hk).2.2.1]
theorem cq_so (h : CEq n M P E F M' P' E' F') (hk : k < n) : w_so g M P E k = w_so g M' P' E' k := by unfold w_so; rw [(h k hk).1, cq_pr h hk]
theorem cq_fast (h : CEq n M P E F M' P' E' F') (hk : k < n) : w_fast g M P E k = w_fast g M' P' E' k := by unfold w_fast; rw [cq_sp h hk, cq_so h hk]
theorem cq_mq (h : CEq n M P E F M' P' E' F') (hk : k < n) : w_mq g M P E k = w_mq g M' P' E' k := by unfold w_mq; rw [(h k hk).1, (h k hk).2.1, cq_pr h hk]
theorem cq_eq (h : CEq n M P E F M' P' E' F') (hk : k < n) : w_eq g M P E k = w_eq g M' P' E' k := by unfold w_eq; rw [(h k hk).1, (h k hk).2.1, (h k hk).2.2.1, cq_pr h hk]
theorem cq_fu1 (h : CEq n M P E F M' P' E' F') (hk : k < n) {a : Int64} : w_fu1 M F a k = w_fu1 M' F' a k := by unfold w_fu1; rw [(h k hk).1, (h k hk).2.2.2]
theorem cq_pace (h : CEq n M P E F M' P' E' F') (hn : 2 ≤ n) (hb : b ≤ n) : w_pace g M P E n lft rgt b = w_pace g M' P' E' n lft rgt b := by
  have h1 := lf_lt hn hb
  have h2 := rg_lt hn hb
  unfold w_pace
  rw [cq_fast h h1, cq_fast h h2, cq_so h h2, (h _ h2).1, (h _ h2).2.1]
theorem cq_more (h : CEq n M P E F M' P' E' F') (hn : 2 ≤ n) (hb : b ≤ n) : w_more P n lft rgt b = w_more P' n lft rgt b := by
  have h1 := lf_lt hn hb
  have h2 := rg_lt hn hb
  unfold w_more
  rw [(h _ h1).2.1, (h _ h2).2.1, (h 0 (by omega)).2.1]
theorem cq_g0 (h : CEq n M P E F M' P' E' F') (hn : 2 ≤ n) (hb : b ≤ n) : w_g0 t g M P E n lft rgt b = w_g0 t g M' P' E' n lft rgt b := by
  have h1 := lf_lt hn hb
  have h2 := rg_lt hn hb
  unfold w_g0
  rw [cq_pace h hn hb, (h _ h1).1, (h _ h2).1, (h _ h1).2.1, (h _ h2).2.1]
theorem cq_g1 (h : CEq n M P E F M' P' E' F') (hn : 2 ≤ n) (hb : b ≤ n) : w_g1 t g M P E n lft rgt b = w_g1 t g M' P' E' n lft rgt b := by
  have h1 := lf_lt hn hb
  have h2 := rg_lt hn hb
  unfold w_g1
  rw [cq_pace h hn hb, cq_mq h h1, cq_mq h h2, cq_more h hn hb]
theorem cq_g2 (h : CEq n M P E F M' P' E' F') (hn : 2 ≤ n) (hb : b ≤ n) : w_g2 t g M P E n lft rgt b = w_g2 t g M' P' E' n lft rgt b := by
  have h1 := lf_lt hn hb
  have h2 := rg_lt hn hb
  unfold w_g2
  rw [cq_pace h hn hb, cq_eq h h1, cq_eq h h2, (h _ h1).2.2.1, (h _ h2).2.2.1]
theorem cq_g3 (h : CEq n M P E F M' P' E' F') (hn : 2 ≤ n) (hb : b ≤ n) : w_g3 t g M P E F n lft rgt b = w_g3 t g M' P' E' F' n lft rgt b := by
  have h1 := lf_lt hn hb
  have h2 := rg_lt hn hb
  unfold w_g3 w_fu
  rw [cq_g0 h hn hb, cq_fu1 h h1, cq_fu1 h h2]
theorem cq_f0 (h : CEq n M P E F M' P' E' F') (hn : 2 ≤ n) (hc : c < n) : w_f0 t g M P E F n lft rgt c = w_f0 t g M' P' E' F' n lft rgt c := by
  unfold w_f0; rw [(h c hc).1, cq_g0 h hn (b := c) (by omega), cq_g0 h hn (b := c + 1) (by omega)]
theorem cq_f1 (h : CEq n M P E F M' P' E' F') (hn : 2 ≤ n) (hc : c < n) : w_f1 t g M P E F n lft rgt c = w_f1 t g M' P' E' F' n lft rgt c := by
  unfold w_f1; rw [(h c hc).2.1, cq_g1 h hn (b := c) (by omega), cq_g1 h hn (b := c + 1) (by omega)]
theorem cq_f2 (h : CEq n M P E F M' P' E' F') (hn : 2 ≤ n) (hc : c < n) : w_f2 t g M P E F n lft rgt c = w_f2 t g M' P' E' F' n lft rgt c := by
  unfold w_f2; rw [(h c hc).2.2.1, cq_g2 h hn (b := c) (by omega), cq_g2 h hn (b := c + 1) (by omega)]
theorem cq_f3 (h : CEq n M P E F M' P' E' F') (hn : 2 ≤ n) (hc : c < n) : w_f3 t g M P E F n lft rgt c = w_f3 t g M' P' E' F' n lft rgt c := by
  unfold w_f3; rw [(h c hc).2.2.2, cq_g3 h hn (b := c) (by omega), cq_g3 h hn (b := c + 1) (by omega)]
theorem cq_gn (h : CEq n M P E F M' P' E' F') (hn : 2 ≤ n) (hc : c < n) : w_gn t g M P E F n lft rgt ign part c = w_gn t g M' P' E' F' n lft rgt ign part c := by
  unfold w_gn; rw [cq_f0 h hn hc, cq_f1 h hn hc, cq_f2 h hn hc, cq_f3 h hn hc]
theorem cq_e2 (h : CEq n M P E F M' P' E' F') (hn : 2 ≤ n) (hc : c < n) : w_e2 t g M P E F n lft rgt ign part heat c = w_e2 t g M' P' E' F' n lft rgt ign part heat c := by
  unfold w_e2; rw [cq_f2 h hn hc, cq_gn h hn hc]
theorem cq_f4 (h : CEq n M P E F M' P' E' F') (hn : 2 ≤ n) (hc : c < n) : w_f4 t g M P E F n lft rgt ign part c = w_f4 t g M' P' E' F' n lft rgt ign part c := by
  unfold w_f4; rw [cq_f3 h hn hc, cq_gn h hn hc]
theorem cq_ok1 (h : CEq n M P E F M' P' E' F') (hn : 2 ≤ n) (k : w_ok t g M P E F n lft rgt ign part heat) : w_ok t g M' P' E' F' n lft rgt ign part heat := by
  refine ⟨fun b hb => ?_, fun c hc => ?_⟩
  · rw [← cq_pace h hn hb]; exact k.1 b hb
  · rw [← cq_f0 h hn hc, ← cq_f1 h hn hc, ← cq_f2 h hn hc, ← cq_f3 h hn hc, ← cq_e2 h hn hc, ← cq_f4 h hn hc]
    exact k.2 c hc
theorem CEq.symm (h : CEq n M P E F M' P' E' F') : CEq n M' P' E' F' M P E F := fun j hj => ⟨(h j hj).1.symm, (h j hj).2.1.symm, (h j hj).2.2.1.symm, (h j hj).2.2.2.symm⟩
theorem cq_ok (h : CEq n M P E F M' P' E' F') (hn : 2 ≤ n) : w_ok t g M P E F n lft rgt ign part heat ↔ w_ok t g M' P' E' F' n lft rgt ign part heat := ⟨cq_ok1 h hn, cq_ok1 h.symm hn⟩
end CQ
theorem w_sum_cong {f f' : Nat → Int64} : ∀ {n : Nat}, (∀ j, j < n → f j = f' j) → w_sum f n = w_sum f' n
  | 0, _ => rfl
  | n + 1, h => by
    show w_sum f n + f n = w_sum f' n + f' n
    rw [w_sum_cong (fun j hj => h j (by omega)), h n (by omega)]
theorem w_sum_mul {f : Nat → Int64} {x : Int64} : ∀ n : Nat, w_sum f n * x = w_sum (fun j => f j * x) n
  | 0 => Int64.zero_mul
  | n + 1 => by
    show (w_sum f n + f n) * x = w_sum (fun j => f j * x) n + f n * x
    rw [← w_sum_mul n]
    grind
/-- laws and cells are those of the reference -/
def TRa (S : Nat → Int64) (g : Nat) (ign part heat : Int32) (n lft rgt : Nat) (M P E F : Nat → Int64) : Prop := TS S g n lft rgt ∧ (S 1 = ign.toInt64 ∧ S 2 = part.toInt64 ∧ S 3 = heat.toInt64) ∧ CEq n M P E F (sM S) (sP S) (sE S) (sF S)
/-- so are the counts and probes -/
def TRb (S : Nat → Int64) (n ns : Nat) (cm gr : Nat → Int64) (gs : Nat → Int32) : Prop := S 7 = lN ns ∧ (∀ j, j < 6 → cm j = S (136 + j)) ∧ ∀ j, j < n → gr j = S (146 + j) ∧ (gs j).toInt64 = S (178 + j)
section TR
variable {g n lft rgt ns ns1 : Nat} {t : Int64} {ign part heat : Int32} {S S1 M P E F cm gr M1 P1 E1 F1 cm1 gr1 : Nat → Int64} {gs gs1 : Nat → Int32}
theorem TRa.cong (h : TRa S g ign part heat n lft rgt M P E F) (e : ∀ j, j < 210 → S1 j = S j) : TRa S1 g ign part heat n lft rgt M P E F := by
  obtain ⟨⟨hg, hS0, ⟨hn2, hn⟩, hS4, ⟨hl1, hS5⟩, ⟨hr1, hS6⟩, hpt, hht, hok⟩, ⟨h1, h2, h3⟩, h4⟩ := h
  refine ⟨⟨hg, by rw [e 0 (by omega)]; exact hS0, ⟨hn2, hn⟩, by rw [e 4 (by omega)]; exact hS4, ⟨hl1, by rw [e 5 (by omega)]; exact hS5⟩, ⟨hr1, by rw [e 6 (by omega)]; exact hS6⟩, by rw [e 2 (by omega)]; exact hpt, by rw [e 3 (by omega)]; exact hht, fun c hc => (hok c hc).cong (e _ (by omega)) (e _ (by omega)) (e _ (by omega)) (e _ (by omega))⟩, ⟨(e 1 (by omega)).trans h1, (e 2 (by omega)).trans h2, (e 3 (by omega)).trans h3⟩, fun j hj => ?_⟩
  obtain ⟨q0, q1, q2, q3⟩ := h4 j hj
  exact ⟨q0.trans (e _ (by omega)).symm, q1.trans (e _ (by omega)).symm, q2.trans (e _ (by omega)).symm, q3.trans (e _ (by omega)).symm⟩
theorem TRb.cong (hn : n ≤ 32) (h : TRb S n ns cm gr gs) (e : ∀ j, j < 210 → S1 j = S j) : TRb S1 n ns cm gr gs := by
  obtain ⟨h1, h2, h3⟩ := h
  refine ⟨(e 7 (by omega)).trans h1, fun j hj => (h2 j hj).trans (e _ (by omega)).symm, fun j hj => ?_⟩
  obtain ⟨q0, q1⟩ := h3 j hj
  exact ⟨q0.trans (e _ (by omega)).symm, q1.trans (e _ (by omega)).symm⟩
theorem TRa.okc (h : TRa S g ign part heat n lft rgt M P E F) : ∀ c, c < n → OkC M P E F c := fun c hc => by
  obtain ⟨q0, q1, q2, q3⟩ := h.2.2 c hc
  exact (h.1.2.2.2.2.2.2.2.2 c hc).cong q0 q1 q2 q3
theorem TRa.ok (h : TRa S g ign part heat n lft rgt M P E F) : w_ok t g M P E F n lft rgt ign.toInt64 part.toInt64 heat.toInt64 ↔ sOk t g n lft rgt S := by
  have := cq_ok (t := t) (g := g) (lft := lft) (rgt := rgt) (ign := ign.toInt64) (part := part.toInt64) (heat := heat.toInt64) h.2.2 h.1.2.2.1.1
  rw [this]
  unfold sOk
  rw [h.2.1.1, h.2.1.2.1, h.2.1.2.2]
theorem TRa.next (h : TRa S g ign part heat n lft rgt M P E F) (ht : 1 ≤ t.toInt ∧ t.toInt ≤ 400) (hk : sOk t g n lft rgt S) (hs : SStp t g n lft rgt S S1) (hc : TStp t g ign.toInt64 part.toInt64 heat.toInt64 n lft rgt ns M P E F cm gr gs ns1 M1 P1 E1 F1 cm1 gr1 gs1) : TRa S1 g ign part heat n lft rgt M1 P1 E1 F1 := by
  have h0 := h.1.next ht hk hs
  obtain ⟨hT, ⟨h1, h2, h3⟩, hC⟩ := h
  have hn := hT.2.2.1.1
  obtain ⟨s1, -, -, -, -, s6⟩ := hs
  obtain ⟨-, c1, -⟩ := hc
  refine ⟨h0, ⟨by rw [s6 1 (by omega)]; exact h1, by rw [s6 2 (by omega)]; exact h2, by rw [s6 3 (by omega)]; exact h3⟩, fun j hj => ?_⟩
  obtain ⟨a0, a1, a2, a3⟩ := s1 j hj
  obtain ⟨b0, b1, b2, b3⟩ := c1 j hj
  rw [h1, h2, h3] at a2
  rw [h1, h2] at a3
  exact ⟨b0.trans ((cq_f0 hC hn hj).trans a0.symm), b1.trans ((cq_f1 hC hn hj).trans a1.symm), b2.trans ((cq_e2 hC hn hj).trans a2.symm), b3.trans ((cq_f4 hC hn hj).trans a3.symm)⟩
theorem i2l_nI {k : Nat} (h : k < 2 ^ 31) : (nI k).toInt64 = lN k := nI_l h
theorem TRb.next (hb : TRb S n ns cm gr gs) (hns : ns < 1000) (h : TRa S g ign part heat n lft rgt M P E F) (hs : SStp t g n lft rgt S S1) (hc : TStp t g ign.toInt64 part.toInt64 heat.toInt64 n lft rgt ns M P E F cm gr gs ns1 M1 P1 E1 F1 cm1 gr1 gs1) : TRb S1 n ns1 cm1 gr1 gs1 := by
  obtain ⟨hT, ⟨h1, h2, h3⟩, hC⟩ := h
  have hn := hT.2.2.1.1
  obtain ⟨s1, s2, ⟨s30, s31, s32, s33⟩, ⟨s40, s41⟩, s5, -⟩ := hs
  obtain ⟨rfl, c1, ⟨c20, c21, c22, c23⟩, ⟨c30, c31⟩, c4⟩ := hc
  obtain ⟨b1, b2, b3⟩ := hb
  have e7 : lN ns + 1 = lN (ns + 1) := lN_1 _
  refine ⟨by rw [s2, b1]; exact e7, fun j hj => ?_, fun j hj => ?_⟩
  · rcases (show j = 0 ∨ j = 1 ∨ j = 2 ∨ j = 3 ∨ j = 4 ∨ j = 5 by omega) with rfl | rfl | rfl | rfl | rfl | rfl
    · rw [c20, b2 0 (by omega), cq_g0 hC hn (b := 0) (by omega), cq_g0 hC hn (b := n) (by omega)]; exact s30.symm
    · rw [c21, b2 1 (by omega), cq_g1 hC hn (b := 0) (by omega), cq_g1 hC hn (b := n) (by omega)]; exact s31.symm
    · rw [c22, b2 2 (by omega), cq_g2 hC hn (b := 0) (by omega), cq_g2 hC hn (b := n) (by omega)]; exact s32.symm
    · rw [c23, b2 3 (by omega), cq_g3 hC hn (b := 0) (by omega), cq_g3 hC hn (b := n) (by omega)]; exact s33.symm
    · rw [c30, b2 4 (by omega), w_sum_mul, h1, h2, h3] at *
      rw [w_sum_cong (fun j hj => show _ = w_gn t g (sM S) (sP S) (sE S) (sF S) n lft rgt ign.toInt64 part.toInt64 j * heat.toInt64 by rw [cq_gn hC hn hj])]
      exact s40.symm
    · rw [c31, b2 5 (by omega), h1, h2] at *
      rw [w_sum_cong (fun j hj => cq_gn hC hn hj)]
      exact s41.symm
  · obtain ⟨a0, a1, a2, -⟩ := s1 j hj
    obtain ⟨d0, d1⟩ := c4 j hj
    obtain ⟨e0, e1⟩ := b3 j hj
    obtain ⟨f0, f1⟩ := s5 j hj
    have hp : w_pr g (sM S1) (sP S1) (sE S1) j = c_pr t g M P E F n lft rgt ign.toInt64 part.toInt64 heat.toInt64 j := by
      rw [h1, h2, h3] at a2
      unfold w_pr c_pr
      rw [show sM S1 j = _ from a0, show sP S1 j = _ from a1, show sE S1 j = _ from a2, cq_f0 hC hn hj, cq_f1 hC hn hj, cq_e2 hC hn hj]
    rw [hp, ← e0] at f0 f1
    rw [b1, e7, ← e1] at f1
    refine ⟨d0.trans f0.symm, ?_⟩
    rw [d1, f1]
    split
    · exact i2l_nI (by omega)
    · rfl
/-- the class's steps beside those of the reference, one behind the other -/
def StI (t : Int64) (g : Nat) (ign part heat : Int32) (n lft rgt mm ns : Nat) (M P E F cm gr : Nat → Int64) (gs : Nat → Int32) (k ns1 : Nat) (M1 P1 E1 F1 cm1 gr1 : Nat → Int64) (gs1 : Nat → Int32) : Prop :=
  (∀ c, c < n → OkC M1 P1 E1 F1 c) ∧ ns1 = ns + k ∧ ∀ (X9 : Nat → Nat → Int64) (k9 : Nat), TRa (X9 0) g ign part heat n lft rgt M P E F → (∀ j, j < k9 → sOk t g n lft rgt (X9 j) ∧ SStp t g n lft rgt (X9 j) (X9 (j + 1))) → k9 ≤ mm → (k9 < mm → ¬ sOk t g n lft rgt (X9 k9)) → k ≤ k9 ∧ TRa (X9 k) g ign part heat n lft rgt M1 P1 E1 F1 ∧ (TRb (X9 0) n ns cm gr gs → TRb (X9 k) n ns1 cm1 gr1 gs1)
theorem StI.init {mm : Nat} (hok : ∀ c, c < n → OkC M P E F c) : StI t g ign part heat n lft rgt mm ns M P E F cm gr gs 0 ns M P E F cm gr gs := ⟨hok, rfl, fun X9 k9 h1 h2 h3 h4 => ⟨Nat.zero_le _, h1, fun h => h⟩⟩
theorem StI.step {mm k ns2 : Nat} {M2 P2 E2 F2 cm2 gr2 : Nat → Int64} {gs2 : Nat → Int32} (h : StI t g ign part heat n lft rgt mm ns M P E F cm gr gs k ns1 M1 P1 E1 F1 cm1 gr1 gs1) (hk : k < mm) (hns : ns + mm ≤ 300) (hg : g < 3) (hn : 2 ≤ n) (ht : 1 ≤ t.toInt ∧ t.toInt ≤ 400) (hpt : 0 ≤ part.toInt64.toInt ∧ part.toInt64.toInt ≤ 100) (hht : 0 ≤ heat.toInt64.toInt ∧ heat.toInt64.toInt ≤ 1000)
    (ho : w_ok t g M1 P1 E1 F1 n lft rgt ign.toInt64 part.toInt64 heat.toInt64) (hs : TStp t g ign.toInt64 part.toInt64 heat.toInt64 n lft rgt ns1 M1 P1 E1 F1 cm1 gr1 gs1 ns2 M2 P2 E2 F2 cm2 gr2 gs2) : StI t g ign part heat n lft rgt mm ns M P E F cm gr gs (k + 1) ns2 M2 P2 E2 F2 cm2 gr2 gs2 := by
  obtain ⟨h1, h2, h3⟩ := h
  refine ⟨fun c hc => ?_, by rw [hs.1, h2]; omega, fun X9 k9 a1 a2 a3 a4 => ?_⟩
  · obtain ⟨q0, q1, q2, q3⟩ := hs.2.1 c hc
    exact (next_ok hg hn h1 ht hpt hht ho hc).cong q0 q1 q2 q3
  · obtain ⟨b1, b2, b3⟩ := h3 X9 k9 a1 a2 a3 a4
    have hk9 : k < k9 := by
      rcases Nat.lt_or_ge k k9 with q | q
      · exact q
      · have e : k = k9 := by omega
        subst e
        exact absurd (b2.ok.mp ho) (a4 hk)
    obtain ⟨c1, c2⟩ := a2 k hk9
    exact ⟨hk9, b2.next ht c1 c2 hs, fun z => (b3 z).next (by omega) b2 c2 hs⟩
theorem StI.fin {mm k k9 : Nat} {T : Nat → Int64} (h : StI t g ign part heat n lft rgt mm ns M P E F cm gr gs k ns1 M1 P1 E1 F1 cm1 gr1 gs1) (hs : mm ≤ k ∨ ¬ w_ok t g M1 P1 E1 F1 n lft rgt ign.toInt64 part.toInt64 heat.toInt64) (hT : TRa S g ign part heat n lft rgt M P E F) (hc : Chn t g n lft rgt S k9 T) (h1 : k9 ≤ mm) (h2 : k9 < mm → ¬ sOk t g n lft rgt T) : k = k9 ∧ TRa T g ign part heat n lft rgt M1 P1 E1 F1 ∧ (TRb S n ns cm gr gs → TRb T n ns1 cm1 gr1 gs1) := by
  obtain ⟨X9, x0, x1, x2⟩ := hc
  subst x0
  obtain ⟨b1, b2, b3⟩ := h.2.2 X9 k9 hT x2 h1 (by rw [x1]; exact h2)
  have e : k = k9 := by
    rcases Nat.lt_or_ge k k9 with q | q
    · rcases hs with hs | hs
      · omega
      · exact absurd (b2.ok.mpr (x2 k q).1) hs
    · omega
  subst e
  rw [x1] at b2 b3
  exact ⟨rfl, b2, b3⟩
end TR

