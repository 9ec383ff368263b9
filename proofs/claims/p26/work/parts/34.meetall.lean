/-- in the midst of the class's meetings of one tick -/
def CI (n0 : Nat) (F0 : RF) (r k n : Nat) (T : RF) : Prop := ∃ G, n ≤ 8 ∧ Ag n T G ∧ FB n G ∧ lp r n G k = lp (n0 - 1) n0 F0 0 ∧ (k + r + 1 = n ∨ (n = 0 ∧ r = 0 ∧ k = 0))
theorem CI.begin {n0 : Nat} {F0 : RF} (hn : n0 ≤ 8) (hB : FB n0 F0) : CI n0 F0 (n0 - 1) 0 n0 F0 := ⟨F0, hn, fun _ _ _ _ => rfl, hB, rfl, by omega⟩
theorem CI.here {n0 r k n : Nat} {F0 T : RF} (h : CI n0 F0 r k n T) (hr : 0 < r) : k + 1 < n ∧ n ≤ 8 ∧ FB n T := by
  obtain ⟨G, e2, e3, e4, e5, e6⟩ := h
  exact ⟨by omega, e2, e4.cong e3.symm.four⟩
theorem CI.meet {n0 r k n c9 rv : Nat} {F0 T T1 : RF} (h : CI n0 F0 r k n T) (hr : 0 < r) (ho : mt_on T k) (h1 : c9 = (mt n T k).1 ∧ rv + k = (mt n T k).2.2 + 1 ∧ ∀ a j, a < 5 → j < c9 → T1 a j = (mt n T k).2.1 a j) : CI n0 F0 (r - 1) (k + (rv - 1)) c9 T1 := by
  obtain ⟨G, e2, e3, e4, e5, e6⟩ := h
  obtain ⟨h1, h2, h3⟩ := h1
  have hk : k + 1 < n := by omega
  obtain ⟨r2, rfl⟩ : ∃ r2, r = r2 + 1 := ⟨r - 1, by omega⟩
  rw [lpS, if_pos ((on_cong e3 hk).mp ho)] at e5
  obtain ⟨c1, c2, c3⟩ := mt_cong e3 hk
  obtain ⟨i1, i2, i3, i4⟩ := mt_ix (F := G) hk e2
  subst h1
  have ek : k + (rv - 1) = (mt n G k).2.2 := by rw [← c2]; rw [← c2] at i1; omega
  refine ⟨(mt n G k).2.1, by rw [c1]; exact i4, fun a j ha hj => (h3 a j ha hj).trans (c3 a j ha hj), by rw [c1]; exact mt_FB e4 hk, by rw [c1, ek]; exact e5, Or.inl ?_⟩
  rw [c1, ek]
  show (mt n G k).2.2 + r2 + 1 = _
  omega
theorem CI.on {n0 r k n : Nat} {F0 T : RF} (h : CI n0 F0 r k n T) (hr : 0 < r) (ho : ¬ mt_on T k) : CI n0 F0 (r - 1) (k + 1) n T := by
  obtain ⟨G, e2, e3, e4, e5, e6⟩ := h
  have hk : k + 1 < n := by omega
  obtain ⟨r2, rfl⟩ : ∃ r2, r = r2 + 1 := ⟨r - 1, by omega⟩
  rw [lpS, if_neg (fun z => ho ((on_cong e3 hk).mpr z))] at e5
  exact ⟨G, e2, e3, e4, e5, Or.inl (by show k + 1 + r2 + 1 = _; omega)⟩
theorem CI.fin {n0 k n : Nat} {F0 T : RF} (h : CI n0 F0 0 k n T) : n = (lp (n0 - 1) n0 F0 0).1 ∧ Ag (lp (n0 - 1) n0 F0 0).1 T (lp (n0 - 1) n0 F0 0).2 := by
  obtain ⟨G, e2, e3, e4, e5, e6⟩ := h
  rw [← e5, lp0]
  exact ⟨rfl, e3⟩
def RR (rr : Int32) (r : Nat) : Prop := (rr = nI r ∧ r ≤ 8) ∨ (r = 0 ∧ rr = -1)
theorem RR.begin {n : Nat} (h : n ≤ 8) : RR (nI n - 1) (n - 1) := by
  rcases Nat.eq_zero_or_pos n with q | q
  · subst q; exact Or.inr ⟨rfl, by decide⟩
  · exact Or.inl ⟨pk_sub (a := n) (b := 1) q, by omega⟩
theorem RR.stop {rr : Int32} {r : Nat} (h : RR rr r) (z : rr ≤ 0) : r = 0 := by
  rcases h with ⟨rfl, h2⟩ | h
  · rcases Nat.eq_zero_or_pos r with q | q
    · exact q
    · exact absurd z (nI_nle q (by omega))
  · exact h.1
theorem RR.go {rr : Int32} {r : Nat} (h : RR rr r) (z : ¬ rr ≤ 0) : 0 < r ∧ RR (rr + -1) (r - 1) := by
  rcases h with ⟨rfl, h2⟩ | h
  · rcases Nat.eq_zero_or_pos r with q | q
    · subst q; exact absurd (by decide : nI 0 ≤ 0) z
    · refine ⟨q, Or.inl ⟨?_, by omega⟩⟩
      obtain ⟨q2, rfl⟩ : ∃ q2, r = q2 + 1 := ⟨r - 1, by omega⟩
      exact pk_m1 _
  · rw [h.2] at z; exact absurd (by decide) z

set_option maxHeartbeats 4000000 in
set_option maxRecDepth 100000 in
theorem c_Row_meetAll (l : Launch) (D : va_G) (ct : Nat → ClassId) (st : Nat → Nat) (ra : Nat → Nat) (cnt : Nat) (ck : Nat → Int32) (cp : Nat → Int32) (ca : Nat → Int32) (cs : Nat → Int32) (cg : Nat → Int32) (hn8 : cnt ≤ 8) (hFB : FB cnt (fR ck cp cs cg ca)) (sz : Nat) : Met l y_Row_meetAll (wsy y_Row_meetAll b_Row_meetAll 3 (none)) (rmW 5 0 0 114) (PcW D ct st [.ref (ra 0)] [((ra 0), .inr (3, [.int (nI cnt), .ref (ra 1), .ref (ra 2), .ref (ra 3), .ref (ra 4), .ref (ra 5)])), ((ra 1), .inl (ct 0, 8, .inl ck)), ((ra 2), .inl (ct 0, 8, .inl cp)), ((ra 3), .inl (ct 0, 8, .inl ca)), ((ra 4), .inl (ct 0, 8, .inl cs)), ((ra 5), .inl (ct 0, 8, .inl cg))] sz) (QcW D [((ra 0), .inr (3, [.int (nI cnt), .ref (ra 1), .ref (ra 2), .ref (ra 3), .ref (ra 4), .ref (ra 5)])), ((ra 1), .inl (ct 0, 8, .inl ck)), ((ra 2), .inl (ct 0, 8, .inl cp)), ((ra 3), .inl (ct 0, 8, .inl ca)), ((ra 4), .inl (ct 0, 8, .inl cs)), ((ra 5), .inl (ct 0, 8, .inl cg))] sz (fun v W1 => ∃ (ck1 : Nat → Int32) (cp1 : Nat → Int32) (ca1 : Nat → Int32) (cs1 : Nat → Int32) (cg1 : Nat → Int32) (c9 : Nat), v = none ∧ W1 = [((ra 0), .inr (3, [.int (nI c9), .ref (ra 1), .ref (ra 2), .ref (ra 3), .ref (ra 4), .ref (ra 5)])), ((ra 1), .inl (ct 0, 8, .inl ck1)), ((ra 2), .inl (ct 0, 8, .inl cp1)), ((ra 3), .inl (ct 0, 8, .inl ca1)), ((ra 4), .inl (ct 0, 8, .inl cs1)), ((ra 5), .inl (ct 0, 8, .inl cg1))] ∧ (c9 = (lp (cnt - 1) cnt (fR ck cp cs cg ca) 0).1 ∧ Ag (lp (cnt - 1) cnt (fR ck cp cs cg ca) 0).1 (fR ck1 cp1 cs1 cg1 ca1) (lp (cnt - 1) cnt (fR ck cp cs cg ca) 0).2))) 0 0 (va_A [((ra 0), .inr (3, [.int (nI cnt), .ref (ra 1), .ref (ra 2), .ref (ra 3), .ref (ra 4), .ref (ra 5)])), ((ra 1), .inl (ct 0, 8, .inl ck)), ((ra 2), .inl (ct 0, 8, .inl cp)), ((ra 3), .inl (ct 0, 8, .inl ca)), ((ra 4), .inl (ct 0, 8, .inl cs)), ((ra 5), .inl (ct 0, 8, .inl cg))] sz) := by
  refine enterW (by decide) (Nat.le_of_ble_eq_true rfl) ?_
  intro p e s m args below meth c ls A hx hb hr hml hown hts hlk hin hsz hAe hP hD hA hE hV hS hl
  have hl : lv_has ls 3 [(0, .ref (ra 0))] := hl
  refine lv_iconst (v := 0) hx hb d_Row_meetAll_0 (by decide) ?_
  refine lv_istore_n (lv' := [(1, .int 0), (0, .ref (ra 0))]) hx hb d_Row_meetAll_1 rfl hl (by decide) rfl (fun ls hl => ?_)
  refine lv_aload_n hx hb d_Row_meetAll_2 rfl (lv_at hl 1 rfl) ?_
  refine q_get 0 0 i_Row rfl hx hb hts hown hE hP rfl (by decide) x_149 rfl d_Row_meetAll_3 ?_
  refine lv_iconst (v := 1) hx hb d_Row_meetAll_6 (by decide) ?_
  refine lv_isub hx hb d_Row_meetAll_7 ?_
  refine lv_istore_n (lv' := [(2, .int ((nI cnt) - 1)), (1, .int 0), (0, .ref (ra 0))]) hx hb d_Row_meetAll_8 rfl hl (by decide) rfl (fun ls hl => ?_)
  have loop_9 : ∀ (n9 : Nat) (k : Nat) (rr : Int32) (r : Nat) (nn : Nat) (Tck : Nat → Int32) (Tcp : Nat → Int32) (Tca : Nat → Int32) (Tcs : Nat → Int32) (Tcg : Nat → Int32) (hrr : RR rr r) (hI : CI cnt (fR ck cp cs cg ca) r k nn (fR Tck Tcp Tcs Tcg Tca)) (hn9 : r < n9) (H : Heap) (locs : List Loc) (ls : Array Slot), va_P D classes [((ra 0), .inr (3, [.int (nI nn), .ref (ra 1), .ref (ra 2), .ref (ra 3), .ref (ra 4), .ref (ra 5)])), ((ra 1), .inl (ct 0, 8, .inl Tck)), ((ra 2), .inl (ct 0, 8, .inl Tcp)), ((ra 3), .inl (ct 0, 8, .inl Tca)), ((ra 4), .inl (ct 0, 8, .inl Tcs)), ((ra 5), .inl (ct 0, 8, .inl Tcg))] H → va_D A [((ra 0), .inr (3, [.int (nI nn), .ref (ra 1), .ref (ra 2), .ref (ra 3), .ref (ra 4), .ref (ra 5)])), ((ra 1), .inl (ct 0, 8, .inl Tck)), ((ra 2), .inl (ct 0, 8, .inl Tcp)), ((ra 3), .inl (ct 0, 8, .inl Tca)), ((ra 4), .inl (ct 0, 8, .inl Tcs)), ((ra 5), .inl (ct 0, 8, .inl Tcg))] → va_S A s.heap H locs → lv_has ls 3 [(0, .ref (ra 0)), (1, .int (nI k)), (2, .int rr)] → W p l e (rmW 5 0 0 114) s m args below meth c H locs (0) (0) (MQ below (QcW D [((ra 0), .inr (3, [.int (nI cnt), .ref (ra 1), .ref (ra 2), .ref (ra 3), .ref (ra 4), .ref (ra 5)])), ((ra 1), .inl (ct 0, 8, .inl ck)), ((ra 2), .inl (ct 0, 8, .inl cp)), ((ra 3), .inl (ct 0, 8, .inl ca)), ((ra 4), .inl (ct 0, 8, .inl cs)), ((ra 5), .inl (ct 0, 8, .inl cg))] sz (fun v W1 => ∃ (ck1 : Nat → Int32) (cp1 : Nat → Int32) (ca1 : Nat → Int32) (cs1 : Nat → Int32) (cg1 : Nat → Int32) (c9 : Nat), v = none ∧ W1 = [((ra 0), .inr (3, [.int (nI c9), .ref (ra 1), .ref (ra 2), .ref (ra 3), .ref (ra 4), .ref (ra 5)])), ((ra 1), .inl (ct 0, 8, .inl ck1)), ((ra 2), .inl (ct 0, 8, .inl cp1)), ((ra 3), .inl (ct 0, 8, .inl ca1)), ((ra 4), .inl (ct 0, 8, .inl cs1)), ((ra 5), .inl (ct 0, 8, .inl cg1))] ∧ (c9 = (lp (cnt - 1) cnt (fR ck cp cs cg ca) 0).1 ∧ Ag (lp (cnt - 1) cnt (fR ck cp cs cg ca) 0).1 (fR ck1 cp1 cs1 cg1 ca1) (lp (cnt - 1) cnt (fR ck cp cs cg ca) 0).2))) args s 0 0 A) (F0 m 9 ls []) := by
    intro n9
    induction n9 with
    | zero => intro k rr r nn Tck Tcp Tca Tcs Tcg hrr hI hn9 H locs ls hP hD hS hl; exact absurd hn9 (Nat.not_lt_zero _)
    | succ n9 ih_9 =>
      intro k rr r nn Tck Tcp Tca Tcs Tcg hrr hI hn9 H locs ls hP hD hS hl
      refine lv_iload_n hx hb d_Row_meetAll_9 rfl (lv_at hl 2 rfl) ?_
      refine lv_if_le (tgt := 41) hx hb d_Row_meetAll_10 (by decide) (fun h_10 => ?_) (fun h_10 => ?_)
      · have hr9 := hrr.stop h_10
        subst hr9
        exact rW_v hx hb hr hlk hAe hS hP hD (Nat.le_of_ble_eq_true rfl) (Nat.le_of_ble_eq_true rfl) d_Row_meetAll_41 ⟨Tck, Tcp, Tca, Tcs, Tcg, nn, rfl, rfl, hI.fin⟩
      · have hr9 := (hrr.go h_10).1
        obtain ⟨hk1, hk2, hk3⟩ := hI.here hr9
        refine lv_iload_n hx hb d_Row_meetAll_13 rfl (lv_at hl 1 rfl) ?_
        refine lv_aload_n hx hb d_Row_meetAll_14 rfl (lv_at hl 0 rfl) ?_
        refine lv_iload_n hx hb d_Row_meetAll_15 rfl (lv_at hl 1 rfl) ?_
        refine cRV (As := [.int (nI k)]) (rest := [.int (nI k)]) (q9 := 0) (ci := 3) K_Row_isMeeting x_673 hx hb hml hown hts hE hV hS (c_Row_isMeeting l D ct st ra nn Tck Tcp Tca Tcs Tcg k (by omega)) hP rfl hP rfl rfl hl.1 rfl (Nat.le_of_ble_eq_true rfl) d_Row_meetAll_16 (Nat.le_of_ble_eq_true rfl) (Nat.le_of_ble_eq_true rfl) ⟨Nat.le_of_ble_eq_true rfl, Nat.le_of_ble_eq_true rfl⟩ ?_
        refine q_ifeq_b (tgt := 32) hx hb d_Row_meetAll_19 (by decide) (fun h_19 => ?_) (fun h_19 => ?_)
        · refine lv_iconst (v := 1) hx hb d_Row_meetAll_32 (by decide) ?_
          refine q_iadd (v := nI (k + 1)) hx hb d_Row_meetAll_33 (nI_add k 1) ?_
          refine lv_istore_n (lv' := [(1, .int (nI (k + 1))), (0, .ref (ra 0)), (2, .int rr)]) hx hb d_Row_meetAll_34 rfl hl (by decide) rfl (fun ls hl => ?_)
          refine lv_iinc (v := (rr + (-1))) (lv' := [(2, .int (rr + (-1))), (1, .int (nI (k + 1))), (0, .ref (ra 0))]) hx hb d_Row_meetAll_35 hl (k := 2) rfl (rfl) (by decide) rfl (fun ls hl => ?_)
          refine lv_goto (tgt := 9) hx hb d_Row_meetAll_38 (by decide) ?_
          exact ih_9 (k + 1) (rr + (-1)) (r - 1) nn Tck Tcp Tca Tcs Tcg ((hrr.go h_10).2) (by first | exact hI.on hr9 h_19 | exact hI.meet hr9 h_19 hq_24) (by omega) _ _ _ hP hD hS (lv_sub hl [2, 1, 0] rfl)
        · refine lv_aload_n hx hb d_Row_meetAll_22 rfl (lv_at hl 0 rfl) ?_
          refine lv_iload_n hx hb d_Row_meetAll_23 rfl (lv_at hl 1 rfl) ?_
          refine cWV (As := [.int (nI k)]) (rest := [.int (nI k)]) (q9 := 0) (ci := 3) K_Row_meet x_677 hx hb hml hown hts hE hV hS (c_Row_meet l D ct st ra nn Tck Tcp Tca Tcs Tcg k (hk2) (hk1) (hk3) _) hP hD hA [0, 1, 2, 3, 4, 5] [] (wr := []) rfl rfl (by decide) (by decide) (by decide) rfl hP rfl rfl hl.1 rfl (Nat.le_of_ble_eq_true rfl) d_Row_meetAll_24 (Nat.le_of_ble_eq_true rfl) (Nat.le_of_ble_eq_true rfl) ⟨Nat.le_of_ble_eq_true rfl, Nat.le_of_ble_eq_true rfl⟩ (fun v W1 H locs hpost hP hD hS => ?_)
          obtain ⟨ck1_1, cp1_1, ca1_1, cs1_1, cg1_1, c9_1, rv9_1, rfl, rfl, hq_24⟩ := hpost
          have hP : va_P D classes [((ra 0), .inr (3, [.int (nI c9_1), .ref (ra 1), .ref (ra 2), .ref (ra 3), .ref (ra 4), .ref (ra 5)])), ((ra 1), .inl (ct 0, 8, .inl ck1_1)), ((ra 2), .inl (ct 0, 8, .inl cp1_1)), ((ra 3), .inl (ct 0, 8, .inl ca1_1)), ((ra 4), .inl (ct 0, 8, .inl cs1_1)), ((ra 5), .inl (ct 0, 8, .inl cg1_1))] H := hP
          have hD : va_D A [((ra 0), .inr (3, [.int (nI c9_1), .ref (ra 1), .ref (ra 2), .ref (ra 3), .ref (ra 4), .ref (ra 5)])), ((ra 1), .inl (ct 0, 8, .inl ck1_1)), ((ra 2), .inl (ct 0, 8, .inl cp1_1)), ((ra 3), .inl (ct 0, 8, .inl ca1_1)), ((ra 4), .inl (ct 0, 8, .inl cs1_1)), ((ra 5), .inl (ct 0, 8, .inl cg1_1))] := hD
          refine lv_iconst (v := 1) hx hb d_Row_meetAll_27 (by decide) ?_
          refine q_isub (v := nI (rv9_1 - 1)) hx hb d_Row_meetAll_28 (pk_sub (a := rv9_1) (b := 1) (by have := hq_24.2.1; have := (mt_ix (F := (fR Tck Tcp Tcs Tcg Tca)) hk1 hk2).1; omega)) ?_
          refine lv_goto (tgt := 33) hx hb d_Row_meetAll_29 (by decide) ?_
          refine q_iadd (v := nI (k + (rv9_1 - 1))) hx hb d_Row_meetAll_33 (nI_add k (rv9_1 - 1)) ?_
          refine lv_istore_n (lv' := [(1, .int (nI (k + (rv9_1 - 1)))), (0, .ref (ra 0)), (2, .int rr)]) hx hb d_Row_meetAll_34 rfl hl (by decide) rfl (fun ls hl => ?_)
          refine lv_iinc (v := (rr + (-1))) (lv' := [(2, .int (rr + (-1))), (1, .int (nI (k + (rv9_1 - 1)))), (0, .ref (ra 0))]) hx hb d_Row_meetAll_35 hl (k := 2) rfl (rfl) (by decide) rfl (fun ls hl => ?_)
          refine lv_goto (tgt := 9) hx hb d_Row_meetAll_38 (by decide) ?_
          exact ih_9 (k + (rv9_1 - 1)) (rr + (-1)) (r - 1) c9_1 ck1_1 cp1_1 ca1_1 cs1_1 cg1_1 ((hrr.go h_10).2) (by first | exact hI.on hr9 h_19 | exact hI.meet hr9 h_19 hq_24) (by omega) _ _ _ hP hD hS (lv_sub hl [2, 1, 0] rfl)
  exact loop_9 _ 0 ((nI cnt) - 1) (cnt - 1) cnt ck cp ca cs cg (RR.begin hn8) (CI.begin hn8 hFB) (Nat.lt_succ_self _) _ _ _ hP hD hS (lv_sub hl [2, 1, 0] rfl)
