theorem pl_step {F G G1 : RF} {k i : Nat} {x : Int} (hk : k ≤ i) (hG : ∀ a j, a < 5 → j < 8 → G a j = if (a = 1 ∨ a = 4) ∧ k ≤ j ∧ j < i then x else F a j) (h1 : ∀ a j, a < 5 → j < 8 → G1 a j = if (a = 1 ∨ a = 4) ∧ j = i then x else G a j) : ∀ a j, a < 5 → j < 8 → G1 a j = if (a = 1 ∨ a = 4) ∧ k ≤ j ∧ j < i + 1 then x else F a j := by
  intro a j ha hj
  rw [h1 a j ha hj]
  by_cases q : (a = 1 ∨ a = 4) ∧ j = i
  · rw [if_pos q, if_pos (by omega)]
  · rw [if_neg q, hG a j ha hj]
    by_cases q2 : (a = 1 ∨ a = 4) ∧ k ≤ j ∧ j < i
    · rw [if_pos q2, if_pos (by omega)]
    · rw [if_neg q2, if_neg (by omega)]
theorem mv_sA {F T G1 : RF} {cnt k i : Nat} (hi : i < cnt) (hc : cnt ≤ 8) (hk : k = (mv F i).1) (hA : ∀ a j, a < 5 → j < k → T a j = (mv F i).2 a j) (hB : ∀ a j, a < 4 → j < cnt - i → T a (k + j) = F a (i + j)) (hs : mv_st F i) (h1 : ∀ a j, a < 5 → j < 8 → G1 a j = if j = k then mvf F i a else T a j) :
    k + 1 = (mv F (i + 1)).1 ∧ (∀ a j, a < 5 → j < k + 1 → G1 a j = (mv F (i + 1)).2 a j) ∧ ∀ a j, a < 4 → j < cnt - (i + 1) → G1 a (k + 1 + j) = F a (i + 1 + j) := by
  have e : mv F (i + 1) = ((mv F i).1 + 1, fun a j => if j = (mv F i).1 then mvf F i a else (mv F i).2 a j) := by
    show (if mv_st F i then _ else _) = _
    rw [if_pos hs]
  have hl := mv_le F i
  rw [e]
  refine ⟨by rw [hk], fun a j ha hj => ?_, fun a j ha hj => ?_⟩
  · show _ = if j = (mv F i).1 then mvf F i a else (mv F i).2 a j
    rw [h1 a j ha (by omega), ← hk]
    by_cases q : j = k
    · rw [if_pos q, if_pos q]
    · rw [if_neg q, if_neg q]; exact hA a j ha (by omega)
  · rw [h1 a _ (by omega) (by omega), if_neg (by omega), show k + 1 + j = k + (j + 1) by omega, hB a (j + 1) ha (by omega), show i + (j + 1) = i + 1 + j by omega]
theorem mv_sB {F T G G1 : RF} {cnt k i : Nat} (hi : i < cnt) (hc : cnt ≤ 8) (hk : k = (mv F i).1) (hA : ∀ a j, a < 5 → j < k → T a j = (mv F i).2 a j) (hB : ∀ a j, a < 4 → j < cnt - i → T a (k + j) = F a (i + j)) (hs : ¬ mv_st F i) (h0 : ∀ a j, a < 5 → j < 8 → ¬ j = k → G a j = T a j) (h1 : ∀ a j, a < 5 → j < k + (cnt - i) - 1 → G1 a j = r_rem G k a j) :
    k = (mv F (i + 1)).1 ∧ (∀ a j, a < 5 → j < k → G1 a j = (mv F (i + 1)).2 a j) ∧ ∀ a j, a < 4 → j < cnt - (i + 1) → G1 a (k + j) = F a (i + 1 + j) := by
  have e : mv F (i + 1) = mv F i := by
    show (if mv_st F i then _ else _) = _
    rw [if_neg hs]
  have hl := mv_le F i
  rw [e]
  refine ⟨hk, fun a j ha hj => ?_, fun a j ha hj => ?_⟩
  · rw [h1 a j ha (by omega)]
    unfold r_rem
    rw [if_pos hj, h0 a j ha (by omega) (by omega)]
    exact hA a j ha hj
  · rw [h1 a _ (by omega) (by omega)]
    unfold r_rem
    rw [if_neg (by omega), h0 a _ (by omega) (by omega) (by omega), show k + j + 1 = k + (j + 1) by omega, hB a (j + 1) ha (by omega), show i + (j + 1) = i + 1 + j by omega]
theorem mvf0 (F : RF) (i : Nat) : mvf F i 0 = F 0 i := by simp [mvf]
theorem mvf1 (F : RF) (i : Nat) : mvf F i 1 = (if F 1 i + F 2 i < 0 then 0 else if 100000 < F 1 i + F 2 i then 100000 else F 1 i + F 2 i) := by simp [mvf]
theorem mvf2 (F : RF) (i : Nat) : mvf F i 2 = (if mv_bey F i then -(F 2 i) else F 2 i) := by simp [mvf]
theorem mvf3 (F : RF) (i : Nat) : mvf F i 3 = (if mv_bey F i then r_min (3 * F 3 i / 2) 900 else F 3 i) := by simp [mvf]
theorem mvf4 (F : RF) (i : Nat) : mvf F i 4 = F 1 i := by simp [mvf]
theorem bey_iff {F : RF} {i : Nat} {x y : Int64} (hx : x.toInt = F 1 i) (hy : y.toInt = F 2 i) (r1 : 0 ≤ F 1 i ∧ F 1 i ≤ 100000) (r2 : -900 ≤ F 2 i ∧ F 2 i ≤ 900) : w_in (x + y) 0 100000 ↔ ¬ mv_bey F i := by
  have e : (x + y).toInt = F 1 i + F 2 i := by rw [tadd (K := 100000) (by omega) (by omega) (by omega), hx, hy]
  unfold w_in mv_bey
  rw [Int64.le_iff_toInt_le, Int64.le_iff_toInt_le, e]
  show (0 ≤ F 1 i + F 2 i ∧ F 1 i + F 2 i ≤ 100000) ↔ _
  omega
theorem neg_t {x : Int64} (h : -900 ≤ x.toInt ∧ x.toInt ≤ 900) : (-x).toInt = -x.toInt := by
  rw [Int64.toInt_neg]; exact fb_bmodL (by omega) (by omega)
theorem pl_end {a j k i rt : Nat} {x y : Int} (h : i = rt + 1) : (if (a = 1 ∨ a = 4) ∧ k ≤ j ∧ j < i then x else y) = (if (a = 1 ∨ a = 4) ∧ k ≤ j ∧ j ≤ rt then x else y) := by
  by_cases q9 : (a = 1 ∨ a = 4) ∧ k ≤ j ∧ j < i
  · rw [if_pos q9, if_pos (by omega)]
  · rw [if_neg q9, if_neg (by omega)]

set_option maxHeartbeats 4000000 in
set_option maxRecDepth 100000 in
theorem c_M_meets (l : Launch) (D : va_G) (ct : Nat → ClassId) (st : Nat → Nat) (am : Nat → Nat) (th : Int32) (bu : Int64) (he : Int64) (S : Nat → Int64) (Bf : Nat → Int64) (cnt : Nat) (k : Nat) (hcnt : S 210 = lN cnt) (hn8 : cnt ≤ 8) (hk : k + 1 < cnt) (hFB : FB cnt (fS S Bf)) (sz : Nat) : Met l y_M_meets (wsy y_M_meets b_M_meets 10 (some .int)) (rmW 3 0 0 91) (PcW D ct st [.ref (am 0), .int (nI k)] [((am 0), .inr (8, [.int th, .ref (am 1), .ref (am 2), .ref (am 3), .ref (am 4), .ref (am 5), .long bu, .long he, .ref (am 6), .ref (am 7)])), ((am 1), .inl (ct 1, 334, .inr (.inl S))), ((am 6), .inl (ct 1, 9, .inr (.inl Bf)))] sz) (QcW D [((am 0), .inr (8, [.int th, .ref (am 1), .ref (am 2), .ref (am 3), .ref (am 4), .ref (am 5), .long bu, .long he, .ref (am 6), .ref (am 7)])), ((am 1), .inl (ct 1, 334, .inr (.inl S))), ((am 6), .inl (ct 1, 9, .inr (.inl Bf)))] sz (fun v W1 => ∃ (s1 : Nat → Int64) (before1 : Nat → Int64) (rt9 : Nat), v = some (.int (nI rt9)) ∧ W1 = [((am 0), .inr (8, [.int th, .ref (am 1), .ref (am 2), .ref (am 3), .ref (am 4), .ref (am 5), .long bu, .long he, .ref (am 6), .ref (am 7)])), ((am 1), .inl (ct 1, 334, .inr (.inl s1))), ((am 6), .inl (ct 1, 9, .inr (.inl before1)))] ∧ (rt9 = (mt cnt (fS S Bf) k).2.2 ∧ s1 210 = lN (mt cnt (fS S Bf) k).1 ∧ Ag (mt cnt (fS S Bf) k).1 (fS s1 before1) (mt cnt (fS S Bf) k).2.1 ∧ oth s1 S))) 0 0 (va_A [((am 0), .inr (8, [.int th, .ref (am 1), .ref (am 2), .ref (am 3), .ref (am 4), .ref (am 5), .long bu, .long he, .ref (am 6), .ref (am 7)])), ((am 1), .inl (ct 1, 334, .inr (.inl S))), ((am 6), .inl (ct 1, 9, .inr (.inl Bf)))] sz) := by
  refine enterW (by decide) (Nat.le_of_ble_eq_true rfl) ?_
  intro p e s m args below meth c ls A hx hb hr hml hown hts hlk hin hsz hAe hP hD hA hE hV hS hl
  have hl : lv_has ls 10 [(0, .ref (am 0)), (1, .int (nI k))] := hl
  obtain ⟨p0, p1, p2, p3⟩ := fb2 hFB (show k < cnt by omega)
  obtain ⟨q0, q1, q2, q3⟩ := fb2 hFB hk
  obtain ⟨ix1, ix2, ix3, ix4⟩ := mt_ix (F := fS S Bf) hk hn8
  refine lv_aload_n hx hb d_M_meets_0 rfl (lv_at hl 0 rfl) ?_
  refine q_get 0 1 i_M rfl hx hb hts hown hE hP rfl (by decide) x_937 rfl d_M_meets_1 ?_
  refine lv_sipush (v := 219) hx hb d_M_meets_4 (by decide) ?_
  refine lv_iload_n hx hb d_M_meets_7 rfl (lv_at hl 1 rfl) ?_
  refine q_iadd (v := nI (219 + k)) hx hb d_M_meets_8 (nI_add 219 k) ?_
  refine q_lald (k := 219 + k) 1 hx hb hE hP rfl rfl (by omega) (by decide) d_M_meets_9 ?_
  refine lv_aload_n hx hb d_M_meets_10 rfl (lv_at hl 0 rfl) ?_
  refine q_get 0 1 i_M rfl hx hb hts hown hE hP rfl (by decide) x_937 rfl d_M_meets_11 ?_
  refine lv_sipush (v := 219) hx hb d_M_meets_14 (by decide) ?_
  refine lv_iload_n hx hb d_M_meets_17 rfl (lv_at hl 1 rfl) ?_
  refine q_iadd (v := nI (219 + k)) hx hb d_M_meets_18 (nI_add 219 k) ?_
  refine lv_iconst (v := 1) hx hb d_M_meets_19 (by decide) ?_
  refine q_iadd (v := nI ((219 + k) + 1)) hx hb d_M_meets_20 (nI_add (219 + k) 1) ?_
  refine q_lald (k := (219 + k) + 1) 1 hx hb hE hP rfl rfl (by omega) (by decide) d_M_meets_21 ?_
  refine q_topl (v := S (219 + (k + 1))) (congrArg S (by omega)) ?_
  refine lv_ladd hx hb d_M_meets_22 ?_
  refine lv_ldc2 (v := 2) hx hb hown (hts _ (List.mem_cons_of_mem _ x_976)) d_M_meets_23 ?_
  refine cRS (As := [.long ((S (219 + k)) + (S (219 + (k + 1)))), .long 2]) (rest := []) K_M_down x_1000 hx hb hml hown hts hE hV hS (c_M_down l D ct st ((S (219 + k)) + (S (219 + (k + 1)))) 2 (by decide)) (fun k q h => by simp at h) rfl hl.1 rfl (Nat.le_of_ble_eq_true rfl) d_M_meets_26 (Nat.le_of_ble_eq_true rfl) (Nat.le_of_ble_eq_true rfl) ⟨Nat.le_of_ble_eq_true rfl, Nat.le_of_ble_eq_true rfl⟩ ?_
  refine lv_topl (fun pl epl => ?_)
  refine lv_lstore_n (lv' := [(2, .long pl), (0, .ref (am 0)), (1, .int (nI k))]) hx hb d_M_meets_29 rfl hl (by decide) rfl (fun ls hl => ?_)
  have hpl : pl.toInt = mt_pl (fS S Bf) k := by unfold mt_pl; rw [fS1, fS1, epl, half p1 q1]
  refine lv_aload_n hx hb d_M_meets_30 rfl (lv_at hl 1 rfl) ?_
  have join_235 : ∀ (rt : Nat) (T : Nat → Int64) (B1 : Nat → Int64) (hrt : rt = (mt cnt (fS S Bf) k).2.2) (hcn : T 210 = lN (mt cnt (fS S Bf) k).1) (hG : ∀ a j, a < 5 → j < (mt cnt (fS S Bf) k).1 → Ex a j k rt ∨ fS T B1 a j = (mt cnt (fS S Bf) k).2.1 a j) (hot : oth T S) (H : Heap) (locs : List Loc) (ls : Array Slot), va_P D classes [((am 0), .inr (8, [.int th, .ref (am 1), .ref (am 2), .ref (am 3), .ref (am 4), .ref (am 5), .long bu, .long he, .ref (am 6), .ref (am 7)])), ((am 1), .inl (ct 1, 334, .inr (.inl T))), ((am 6), .inl (ct 1, 9, .inr (.inl B1)))] H → va_D A [((am 0), .inr (8, [.int th, .ref (am 1), .ref (am 2), .ref (am 3), .ref (am 4), .ref (am 5), .long bu, .long he, .ref (am 6), .ref (am 7)])), ((am 1), .inl (ct 1, 334, .inr (.inl T))), ((am 6), .inl (ct 1, 9, .inr (.inl B1)))] → va_S A s.heap H locs → lv_has ls 10 [(0, .ref (am 0)), (1, .int (nI k)), (2, .long pl), (6, .int (nI k)), (7, .int (nI rt))] → W p l e (rmW 3 0 0 91) s m args below meth c H locs (0) (0) (MQ below (QcW D [((am 0), .inr (8, [.int th, .ref (am 1), .ref (am 2), .ref (am 3), .ref (am 4), .ref (am 5), .long bu, .long he, .ref (am 6), .ref (am 7)])), ((am 1), .inl (ct 1, 334, .inr (.inl S))), ((am 6), .inl (ct 1, 9, .inr (.inl Bf)))] sz (fun v W1 => ∃ (s1 : Nat → Int64) (before1 : Nat → Int64) (rt9 : Nat), v = some (.int (nI rt9)) ∧ W1 = [((am 0), .inr (8, [.int th, .ref (am 1), .ref (am 2), .ref (am 3), .ref (am 4), .ref (am 5), .long bu, .long he, .ref (am 6), .ref (am 7)])), ((am 1), .inl (ct 1, 334, .inr (.inl s1))), ((am 6), .inl (ct 1, 9, .inr (.inl before1)))] ∧ (rt9 = (mt cnt (fS S Bf) k).2.2 ∧ s1 210 = lN (mt cnt (fS S Bf) k).1 ∧ Ag (mt cnt (fS S Bf) k).1 (fS s1 before1) (mt cnt (fS S Bf) k).2.1 ∧ oth s1 S))) args s 0 0 A) (F0 m 235 ls []) := by
    intro rt T B1 hrt hcn hG hot H locs ls hP hD hS hl
    refine lv_iload hx hb d_M_meets_235 (lv_at hl 3 rfl) ?_
    refine lv_istore (lv' := [(8, .int (nI k)), (0, .ref (am 0)), (1, .int (nI k)), (2, .long pl), (6, .int (nI k)), (7, .int (nI rt))]) hx hb d_M_meets_237 hl (by decide) rfl (fun ls hl => ?_)
    have loop_239 : ∀ (n9 : Nat) (i : Nat) (T2 : Nat → Int64) (B2 : Nat → Int64) (hi : k ≤ i ∧ i ≤ rt + 1) (hT : ∀ a j, a < 5 → j < 8 → fS T2 B2 a j = if (a = 1 ∨ a = 4) ∧ k ≤ j ∧ j < i then pl.toInt else fS T B1 a j) (hT2 : T2 210 = T 210) (hT3 : oth T2 T) (hn9 : rt + 1 - i < n9) (H : Heap) (locs : List Loc) (ls : Array Slot), va_P D classes [((am 0), .inr (8, [.int th, .ref (am 1), .ref (am 2), .ref (am 3), .ref (am 4), .ref (am 5), .long bu, .long he, .ref (am 6), .ref (am 7)])), ((am 1), .inl (ct 1, 334, .inr (.inl T2))), ((am 6), .inl (ct 1, 9, .inr (.inl B2)))] H → va_D A [((am 0), .inr (8, [.int th, .ref (am 1), .ref (am 2), .ref (am 3), .ref (am 4), .ref (am 5), .long bu, .long he, .ref (am 6), .ref (am 7)])), ((am 1), .inl (ct 1, 334, .inr (.inl T2))), ((am 6), .inl (ct 1, 9, .inr (.inl B2)))] → va_S A s.heap H locs → lv_has ls 10 [(0, .ref (am 0)), (1, .int (nI k)), (2, .long pl), (6, .int (nI k)), (7, .int (nI rt)), (8, .int (nI i))] → W p l e (rmW 3 0 0 91) s m args below meth c H locs (0) (0) (MQ below (QcW D [((am 0), .inr (8, [.int th, .ref (am 1), .ref (am 2), .ref (am 3), .ref (am 4), .ref (am 5), .long bu, .long he, .ref (am 6), .ref (am 7)])), ((am 1), .inl (ct 1, 334, .inr (.inl S))), ((am 6), .inl (ct 1, 9, .inr (.inl Bf)))] sz (fun v W1 => ∃ (s1 : Nat → Int64) (before1 : Nat → Int64) (rt9 : Nat), v = some (.int (nI rt9)) ∧ W1 = [((am 0), .inr (8, [.int th, .ref (am 1), .ref (am 2), .ref (am 3), .ref (am 4), .ref (am 5), .long bu, .long he, .ref (am 6), .ref (am 7)])), ((am 1), .inl (ct 1, 334, .inr (.inl s1))), ((am 6), .inl (ct 1, 9, .inr (.inl before1)))] ∧ (rt9 = (mt cnt (fS S Bf) k).2.2 ∧ s1 210 = lN (mt cnt (fS S Bf) k).1 ∧ Ag (mt cnt (fS S Bf) k).1 (fS s1 before1) (mt cnt (fS S Bf) k).2.1 ∧ oth s1 S))) args s 0 0 A) (F0 m 239 ls []) := by
      intro n9
      induction n9 with
      | zero => intro i T2 B2 hi hT hT2 hT3 hn9 H locs ls hP hD hS hl; exact absurd hn9 (Nat.not_lt_zero _)
      | succ n9 ih_239 =>
        intro i T2 B2 hi hT hT2 hT3 hn9 H locs ls hP hD hS hl
        refine lv_iload hx hb d_M_meets_239 (lv_at hl 5 rfl) ?_
        refine lv_iload hx hb d_M_meets_241 (lv_at hl 4 rfl) ?_
        refine q_icmp_gt_n (a := i) (b := rt) (tgt := 272) hx hb d_M_meets_243 (by decide) rfl rfl (by omega) (by omega) (fun h_243 => ?_) (fun h_243 => ?_)
        · refine lv_iload hx hb d_M_meets_272 (lv_at hl 4 rfl) ?_
          exact rW_i hx hb hr hlk hAe hS hP hD (Nat.le_of_ble_eq_true rfl) (Nat.le_of_ble_eq_true rfl) d_M_meets_274 ⟨T2, B2, rt, rfl, rfl, ⟨hrt, hT2.trans hcn, mt_last hk hrt hpl hG (fun a j ha hj => (hT a j ha hj).trans (pl_end (by omega))) ix4, hT3.trans hot⟩⟩
        · refine lv_aload_n hx hb d_M_meets_246 rfl (lv_at hl 0 rfl) ?_
          refine q_get 0 1 i_M rfl hx hb hts hown hE hP rfl (by decide) x_937 rfl d_M_meets_247 ?_
          refine lv_sipush (v := 219) hx hb d_M_meets_250 (by decide) ?_
          refine lv_iload hx hb d_M_meets_253 (lv_at hl 5 rfl) ?_
          refine q_iadd (v := nI (219 + i)) hx hb d_M_meets_255 (nI_add 219 i) ?_
          refine lv_lload_n hx hb d_M_meets_256 rfl (lv_at hl 2 rfl) ?_
          obtain ⟨s_1, es_1⟩ : ∃ g9 : Nat → Int64, g9 = vp_updL T2 (219 + i) pl := ⟨_, rfl⟩
          refine q_last (k := 219 + i) 1 (ws1 := [((am 0), .inr (8, [.int th, .ref (am 1), .ref (am 2), .ref (am 3), .ref (am 4), .ref (am 5), .long bu, .long he, .ref (am 6), .ref (am 7)])), ((am 1), .inl (ct 1, 334, .inr (.inl s_1))), ((am 6), .inl (ct 1, 9, .inr (.inl B2)))]) es_1 hx hb hE hP hD hS rfl rfl (by omega) (by decide) rfl d_M_meets_257 (fun H locs hP hD hS => ?_)
          refine lv_aload_n hx hb d_M_meets_258 rfl (lv_at hl 0 rfl) ?_
          refine q_get 0 8 i_M rfl hx hb hts hown hE hP rfl (by decide) x_944 rfl d_M_meets_259 ?_
          refine lv_iload hx hb d_M_meets_262 (lv_at hl 5 rfl) ?_
          refine lv_lload_n hx hb d_M_meets_264 rfl (lv_at hl 2 rfl) ?_
          obtain ⟨before_1, ebefore_1⟩ : ∃ g9 : Nat → Int64, g9 = vp_updL B2 i pl := ⟨_, rfl⟩
          refine q_last (k := i) 2 (ws1 := [((am 0), .inr (8, [.int th, .ref (am 1), .ref (am 2), .ref (am 3), .ref (am 4), .ref (am 5), .long bu, .long he, .ref (am 6), .ref (am 7)])), ((am 1), .inl (ct 1, 334, .inr (.inl s_1))), ((am 6), .inl (ct 1, 9, .inr (.inl before_1)))]) ebefore_1 hx hb hE hP hD hS rfl rfl (by omega) (by decide) rfl d_M_meets_265 (fun H locs hP hD hS => ?_)
          refine lv_iinc (v := (nI (i + 1))) (lv' := [(8, .int (nI (i + 1))), (0, .ref (am 0)), (1, .int (nI k)), (2, .long pl), (6, .int (nI k)), (7, .int (nI rt))]) hx hb d_M_meets_266 hl (k := 5) rfl (nI_1 _) (by decide) rfl (fun ls hl => ?_)
          refine lv_goto (tgt := 239) hx hb d_M_meets_269 (by decide) ?_
          exact ih_239 (i + 1) s_1 before_1 (by omega) (pl_step (by omega) hT (fun a j ha hj => by
                rcases a5 ha with rfl | rfl | rfl | rfl | rfl
                · rw [fS0, fS0, if_neg (by omega)]; simp (disch := omega) only [ebefore_1, es_1, pk_uLn, pk_uLs, pk_us, pk_un]
                · rw [fS1, fS1]
                  by_cases q9 : j = i
                  · rw [if_pos ⟨by omega, q9⟩, q9]; simp (disch := omega) only [ebefore_1, es_1, pk_uLn, pk_uLs, pk_us, pk_un]
                  · rw [if_neg (by omega)]; simp (disch := omega) only [ebefore_1, es_1, pk_uLn, pk_uLs, pk_us, pk_un]
                · rw [fS2, fS2, if_neg (by omega)]; simp (disch := omega) only [ebefore_1, es_1, pk_uLn, pk_uLs, pk_us, pk_un]
                · rw [fS3, fS3, if_neg (by omega)]; simp (disch := omega) only [ebefore_1, es_1, pk_uLn, pk_uLs, pk_us, pk_un]
                · rw [fS4, fS4]
                  by_cases q9 : j = i
                  · rw [if_pos ⟨by omega, q9⟩, q9]; simp (disch := omega) only [ebefore_1, es_1, pk_uLn, pk_uLs, pk_us, pk_un]
                  · rw [if_neg (by omega)]; simp (disch := omega) only [ebefore_1, es_1, pk_uLn, pk_uLs, pk_us, pk_un])) (by simp (disch := omega) only [ebefore_1, es_1, pk_uLn, pk_uLs, pk_us, pk_un]; exact hT2) (fun j hj => by simp (disch := omega) only [ebefore_1, es_1, pk_uLn, pk_uLs, pk_us, pk_un]; exact hT3 j hj) (by omega) _ _ _ hP hD hS (lv_sub hl [1, 2, 3, 4, 5, 0] rfl)
    exact loop_239 _ k T B1 (by omega) (fun a j ha hj => (if_neg (by omega)).symm) (rfl) (fun _ _ => rfl) (Nat.lt_succ_self _) _ _ _ hP hD hS (lv_sub hl [1, 2, 3, 4, 5, 0] rfl)
  refine q_get 0 1 i_M rfl hx hb hts hown hE hP rfl (by decide) x_937 rfl d_M_meets_31 ?_
  refine lv_sipush (v := 211) hx hb d_M_meets_34 (by decide) ?_
  refine lv_iload_n hx hb d_M_meets_37 rfl (lv_at hl 2 rfl) ?_
  refine q_iadd (v := nI (211 + k)) hx hb d_M_meets_38 (nI_add 211 k) ?_
  refine q_lald (k := 211 + k) 1 hx hb hE hP rfl rfl (by omega) (by decide) d_M_meets_39 ?_
  refine lv_lconst (v := 0) hx hb d_M_meets_40 (by decide) ?_
  refine W.lcmp hx hb d_M_meets_41 ?_
  refine q_cmp_ne (tgt := 49) hx hb d_M_meets_42 (by decide) (fun h_42 => ?_) (fun h_42 => ?_)
  · refine lv_iconst (v := 0) hx hb d_M_meets_49 (by decide) ?_
    refine lv_istore (lv' := [(4, .int 0), (2, .long pl), (0, .ref (am 0)), (1, .int (nI k))]) hx hb d_M_meets_50 hl (by decide) rfl (fun ls hl => ?_)
    refine lv_aload_n hx hb d_M_meets_52 rfl (lv_at hl 2 rfl) ?_
    refine q_get 0 1 i_M rfl hx hb hts hown hE hP rfl (by decide) x_937 rfl d_M_meets_53 ?_
    refine lv_sipush (v := 211) hx hb d_M_meets_56 (by decide) ?_
    refine lv_iload_n hx hb d_M_meets_59 rfl (lv_at hl 3 rfl) ?_
    refine q_iadd (v := nI (211 + k)) hx hb d_M_meets_60 (nI_add 211 k) ?_
    refine lv_iconst (v := 1) hx hb d_M_meets_61 (by decide) ?_
    refine q_iadd (v := nI ((211 + k) + 1)) hx hb d_M_meets_62 (nI_add (211 + k) 1) ?_
    refine q_lald (k := (211 + k) + 1) 1 hx hb hE hP rfl rfl (by omega) (by decide) d_M_meets_63 ?_
    refine q_topl (v := S (211 + (k + 1))) (congrArg S (by omega)) ?_
    refine lv_lconst (v := 0) hx hb d_M_meets_64 (by decide) ?_
    refine W.lcmp hx hb d_M_meets_65 ?_
    refine q_cmp_ne (tgt := 73) hx hb d_M_meets_66 (by decide) (fun h_66 => ?_) (fun h_66 => ?_)
    · refine lv_iconst (v := 0) hx hb d_M_meets_73 (by decide) ?_
      refine lv_istore (lv' := [(5, .int 0), (4, .int 0), (2, .long pl), (0, .ref (am 0)), (1, .int (nI k))]) hx hb d_M_meets_74 hl (by decide) rfl (fun ls hl => ?_)
      refine lv_iload_n hx hb d_M_meets_76 rfl (lv_at hl 4 rfl) ?_
      refine lv_istore (lv' := [(6, .int (nI k)), (5, .int 0), (4, .int 0), (2, .long pl), (0, .ref (am 0)), (1, .int (nI k))]) hx hb d_M_meets_77 hl (by decide) rfl (fun ls hl => ?_)
      refine lv_iload hx hb d_M_meets_79 (lv_at hl 2 rfl) ?_
      refine lv_if_eq (tgt := 100) hx hb d_M_meets_81 (by decide) (fun _ => ?_) (fun h => absurd h (by decide))
      refine lv_iload hx hb d_M_meets_100 (lv_at hl 2 rfl) ?_
      refine lv_if_ne (tgt := 110) hx hb d_M_meets_102 (by decide) (fun h => absurd h (by decide)) (fun _ => ?_)
      refine lv_iload hx hb d_M_meets_105 (lv_at hl 1 rfl) ?_
      refine lv_if_eq (tgt := 120) hx hb d_M_meets_107 (by decide) (fun _ => ?_) (fun h => absurd h (by decide))
      refine lv_aload_n hx hb d_M_meets_120 rfl (lv_at hl 4 rfl) ?_
      refine q_get 0 1 i_M rfl hx hb hts hown hE hP rfl (by decide) x_937 rfl d_M_meets_121 ?_
      refine lv_sipush (v := 211) hx hb d_M_meets_124 (by decide) ?_
      refine lv_iload_n hx hb d_M_meets_127 rfl (lv_at hl 5 rfl) ?_
      refine q_iadd (v := nI (211 + k)) hx hb d_M_meets_128 (nI_add 211 k) ?_
      refine q_lald (k := 211 + k) 1 hx hb hE hP rfl rfl (by omega) (by decide) d_M_meets_129 ?_
      refine lv_aload_n hx hb d_M_meets_130 rfl (lv_at hl 4 rfl) ?_
      refine q_get 0 1 i_M rfl hx hb hts hown hE hP rfl (by decide) x_937 rfl d_M_meets_131 ?_
      refine lv_sipush (v := 211) hx hb d_M_meets_134 (by decide) ?_
      refine lv_iload_n hx hb d_M_meets_137 rfl (lv_at hl 5 rfl) ?_
      refine q_iadd (v := nI (211 + k)) hx hb d_M_meets_138 (nI_add 211 k) ?_
      refine lv_iconst (v := 1) hx hb d_M_meets_139 (by decide) ?_
      refine q_iadd (v := nI ((211 + k) + 1)) hx hb d_M_meets_140 (nI_add (211 + k) 1) ?_
      refine q_lald (k := (211 + k) + 1) 1 hx hb hE hP rfl rfl (by omega) (by decide) d_M_meets_141 ?_
      refine q_topl (v := S (211 + (k + 1))) (congrArg S (by omega)) ?_
      refine W.lcmp hx hb d_M_meets_142 ?_
      refine q_cmp_eq (tgt := 150) hx hb d_M_meets_143 (by decide) (fun h_143 => ?_) (fun h_143 => ?_)
      · refine lv_iconst (v := 0) hx hb d_M_meets_150 (by decide) ?_
        refine lv_istore (lv' := [(8, .int 0), (6, .int (nI k)), (5, .int 0), (4, .int 0), (2, .long pl), (0, .ref (am 0)), (1, .int (nI k))]) hx hb d_M_meets_151 hl (by decide) rfl (fun ls hl => ?_)
        refine lv_iload hx hb d_M_meets_153 (lv_at hl 0 rfl) ?_
        refine lv_if_eq (tgt := 183) hx hb d_M_meets_155 (by decide) (fun _ => ?_) (fun h => absurd h (by decide))
        refine lv_aload_n hx hb d_M_meets_183 rfl (lv_at hl 5 rfl) ?_
        refine q_get 0 1 i_M rfl hx hb hts hown hE hP rfl (by decide) x_937 rfl d_M_meets_184 ?_
        refine lv_sipush (v := 235) hx hb d_M_meets_187 (by decide) ?_
        refine lv_iload_n hx hb d_M_meets_190 rfl (lv_at hl 6 rfl) ?_
        refine q_iadd (v := nI (235 + k)) hx hb d_M_meets_191 (nI_add 235 k) ?_
        refine lv_iconst (v := 1) hx hb d_M_meets_192 (by decide) ?_
        refine q_iadd (v := nI ((235 + k) + 1)) hx hb d_M_meets_193 (nI_add (235 + k) 1) ?_
        refine q_lald (k := (235 + k) + 1) 1 hx hb hE hP rfl rfl (by omega) (by decide) d_M_meets_194 ?_
        refine q_topl (v := S (235 + (k + 1))) (congrArg S (by omega)) ?_
        refine lv_aload_n hx hb d_M_meets_195 rfl (lv_at hl 5 rfl) ?_
        refine q_get 0 1 i_M rfl hx hb hts hown hE hP rfl (by decide) x_937 rfl d_M_meets_196 ?_
        refine lv_sipush (v := 235) hx hb d_M_meets_199 (by decide) ?_
        refine lv_iload_n hx hb d_M_meets_202 rfl (lv_at hl 6 rfl) ?_
        refine q_iadd (v := nI (235 + k)) hx hb d_M_meets_203 (nI_add 235 k) ?_
        refine q_lald (k := 235 + k) 1 hx hb hE hP rfl rfl (by omega) (by decide) d_M_meets_204 ?_
        refine W.lcmp hx hb d_M_meets_205 ?_
        refine q_cmp_le (tgt := 213) hx hb d_M_meets_206 (by decide) (fun h_206 => ?_) (fun h_206 => ?_)
        · refine lv_iconst (v := 0) hx hb d_M_meets_213 (by decide) ?_
          refine lv_istore (lv' := [(9, .int 0), (8, .int 0), (6, .int (nI k)), (5, .int 0), (4, .int 0), (2, .long pl), (0, .ref (am 0)), (1, .int (nI k))]) hx hb d_M_meets_214 hl (by decide) rfl (fun ls hl => ?_)
          refine lv_aload_n hx hb d_M_meets_216 rfl (lv_at hl 6 rfl) ?_
          refine lv_iload hx hb d_M_meets_217 (lv_at hl 0 rfl) ?_
          refine lv_if_eq (tgt := 226) hx hb d_M_meets_219 (by decide) (fun _ => ?_) (fun h => absurd h (by decide))
          refine lv_iload_n hx hb d_M_meets_226 rfl (lv_at hl 7 rfl) ?_
          refine lv_iconst (v := 1) hx hb d_M_meets_227 (by decide) ?_
          refine q_iadd (v := nI (k + 1)) hx hb d_M_meets_228 (nI_add k 1) ?_
          refine cWV (As := [.int (nI (k + 1))]) (rest := []) (q9 := 0) (ci := 8) K_M_removes x_1145 hx hb hml hown hts hE hV hS (c_M_removes l D ct st am th bu he S Bf cnt (k + 1) (hcnt) (by omega) (by omega) _) hP hD hA [0, 1, 2] [] (wr := []) rfl rfl (by decide) (by decide) (by decide) rfl hP rfl rfl hl.1 rfl (Nat.le_of_ble_eq_true rfl) d_M_meets_229 (Nat.le_of_ble_eq_true rfl) (Nat.le_of_ble_eq_true rfl) ⟨Nat.le_of_ble_eq_true rfl, Nat.le_of_ble_eq_true rfl⟩ (fun v W1 H locs hpost hP hD hS => ?_)
          obtain ⟨s1_1, before1_1, rfl, rfl, hq_229⟩ := hpost
          have hP : va_P D classes [((am 0), .inr (8, [.int th, .ref (am 1), .ref (am 2), .ref (am 3), .ref (am 4), .ref (am 5), .long bu, .long he, .ref (am 6), .ref (am 7)])), ((am 1), .inl (ct 1, 334, .inr (.inl s1_1))), ((am 6), .inl (ct 1, 9, .inr (.inl before1_1)))] H := hP
          have hD : va_D A [((am 0), .inr (8, [.int th, .ref (am 1), .ref (am 2), .ref (am 3), .ref (am 4), .ref (am 5), .long bu, .long he, .ref (am 6), .ref (am 7)])), ((am 1), .inl (ct 1, 334, .inr (.inl s1_1))), ((am 6), .inl (ct 1, 9, .inr (.inl before1_1)))] := hD
          have key : k = (mt cnt (fS S Bf) k).2.2 ∧ s1_1 210 = lN (mt cnt (fS S Bf) k).1 ∧ (∀ a j, a < 5 → j < (mt cnt (fS S Bf) k).1 → Ex a j k k ∨ fS s1_1 before1_1 a j = (mt cnt (fS S Bf) k).2.1 a j) ∧ oth s1_1 S := by
            have hg9 : ∀ a j, a < 5 → j < cnt - 1 → fS s1_1 before1_1 a j = r_rem (fS S Bf) (mt_gone (fS S Bf) k) a j := by
              intro a j ha hj
              rw [hq_229.1 a j ha hj]
              congr 1
              unfold mt_gone
              rw [fS0, fS0, fS3, fS3]
              first
              | (rw [if_neg (fun z => h_143 (Int64.toInt_inj.mp z)), if_pos (eq2.mp h_172)])
              | (rw [if_neg (fun z => h_143 (Int64.toInt_inj.mp z)), if_neg (fun z => h_172 (eq2.mpr z))])
              | (rw [if_pos (congrArg Int64.toInt h_143), if_neg (fun z => absurd (Int64.lt_iff_toInt_lt.mpr z) (Int64.not_lt.mpr h_206))])
              | (rw [if_pos (congrArg Int64.toInt h_143), if_pos (Int64.lt_iff_toInt_lt.mp (Int64.not_le.mp h_206))])
            have key := gon (n := cnt) (F := fS S Bf) (by rw [fS0, fS0]; exact fun z => absurd (eq0.mpr z.1) h_42) (by rw [fS0, fS0]; exact fun z => z.elim (fun w => absurd (eq0.mpr w) h_42) (fun w => absurd (eq0.mpr w) h_66)) hk hg9
            exact ⟨key.2.1.symm, by rw [key.1]; exact hq_229.2.1, by rw [key.1]; exact key.2.2, hq_229.2.2⟩
          refine lv_iload_n hx hb d_M_meets_232 rfl (lv_at hl 7 rfl) ?_
          refine lv_istore (lv' := [(7, .int (nI k)), (9, .int 0), (8, .int 0), (6, .int (nI k)), (5, .int 0), (4, .int 0), (2, .long pl), (0, .ref (am 0)), (1, .int (nI k))]) hx hb d_M_meets_233 hl (by decide) rfl (fun ls hl => ?_)
          exact join_235 k s1_1 before1_1 (key.1) (key.2.1) (key.2.2.1) (key.2.2.2) _ _ _ hP hD hS (lv_sub hl [7, 8, 6, 3, 0] rfl)
        · refine lv_iconst (v := 1) hx hb d_M_meets_209 (by decide) ?_
          refine lv_goto (tgt := 214) hx hb d_M_meets_210 (by decide) ?_
          refine lv_istore (lv' := [(9, .int 1), (8, .int 0), (6, .int (nI k)), (5, .int 0), (4, .int 0), (2, .long pl), (0, .ref (am 0)), (1, .int (nI k))]) hx hb d_M_meets_214 hl (by decide) rfl (fun ls hl => ?_)
          refine lv_aload_n hx hb d_M_meets_216 rfl (lv_at hl 6 rfl) ?_
          refine lv_iload hx hb d_M_meets_217 (lv_at hl 0 rfl) ?_
          refine lv_if_eq (tgt := 226) hx hb d_M_meets_219 (by decide) (fun h => absurd h (by decide)) (fun _ => ?_)
          refine lv_iload_n hx hb d_M_meets_222 rfl (lv_at hl 7 rfl) ?_
          refine lv_goto (tgt := 229) hx hb d_M_meets_223 (by decide) ?_
          refine cWV (As := [.int (nI k)]) (rest := []) (q9 := 0) (ci := 8) K_M_removes x_1145 hx hb hml hown hts hE hV hS (c_M_removes l D ct st am th bu he S Bf cnt k (hcnt) (by omega) (by omega) _) hP hD hA [0, 1, 2] [] (wr := []) rfl rfl (by decide) (by decide) (by decide) rfl hP rfl rfl hl.1 rfl (Nat.le_of_ble_eq_true rfl) d_M_meets_229 (Nat.le_of_ble_eq_true rfl) (Nat.le_of_ble_eq_true rfl) ⟨Nat.le_of_ble_eq_true rfl, Nat.le_of_ble_eq_true rfl⟩ (fun v W1 H locs hpost hP hD hS => ?_)
          obtain ⟨s1_2, before1_2, rfl, rfl, hq_229⟩ := hpost
          have hP : va_P D classes [((am 0), .inr (8, [.int th, .ref (am 1), .ref (am 2), .ref (am 3), .ref (am 4), .ref (am 5), .long bu, .long he, .ref (am 6), .ref (am 7)])), ((am 1), .inl (ct 1, 334, .inr (.inl s1_2))), ((am 6), .inl (ct 1, 9, .inr (.inl before1_2)))] H := hP
          have hD : va_D A [((am 0), .inr (8, [.int th, .ref (am 1), .ref (am 2), .ref (am 3), .ref (am 4), .ref (am 5), .long bu, .long he, .ref (am 6), .ref (am 7)])), ((am 1), .inl (ct 1, 334, .inr (.inl s1_2))), ((am 6), .inl (ct 1, 9, .inr (.inl before1_2)))] := hD
          have key : k = (mt cnt (fS S Bf) k).2.2 ∧ s1_2 210 = lN (mt cnt (fS S Bf) k).1 ∧ (∀ a j, a < 5 → j < (mt cnt (fS S Bf) k).1 → Ex a j k k ∨ fS s1_2 before1_2 a j = (mt cnt (fS S Bf) k).2.1 a j) ∧ oth s1_2 S := by
            have hg9 : ∀ a j, a < 5 → j < cnt - 1 → fS s1_2 before1_2 a j = r_rem (fS S Bf) (mt_gone (fS S Bf) k) a j := by
              intro a j ha hj
              rw [hq_229.1 a j ha hj]
              congr 1
              unfold mt_gone
              rw [fS0, fS0, fS3, fS3]
              first
              | (rw [if_neg (fun z => h_143 (Int64.toInt_inj.mp z)), if_pos (eq2.mp h_172)])
              | (rw [if_neg (fun z => h_143 (Int64.toInt_inj.mp z)), if_neg (fun z => h_172 (eq2.mpr z))])
              | (rw [if_pos (congrArg Int64.toInt h_143), if_neg (fun z => absurd (Int64.lt_iff_toInt_lt.mpr z) (Int64.not_lt.mpr h_206))])
              | (rw [if_pos (congrArg Int64.toInt h_143), if_pos (Int64.lt_iff_toInt_lt.mp (Int64.not_le.mp h_206))])
            have key := gon (n := cnt) (F := fS S Bf) (by rw [fS0, fS0]; exact fun z => absurd (eq0.mpr z.1) h_42) (by rw [fS0, fS0]; exact fun z => z.elim (fun w => absurd (eq0.mpr w) h_42) (fun w => absurd (eq0.mpr w) h_66)) hk hg9
            exact ⟨key.2.1.symm, by rw [key.1]; exact hq_229.2.1, by rw [key.1]; exact key.2.2, hq_229.2.2⟩
          refine lv_iload_n hx hb d_M_meets_232 rfl (lv_at hl 7 rfl) ?_
          refine lv_istore (lv' := [(7, .int (nI k)), (9, .int 1), (8, .int 0), (6, .int (nI k)), (5, .int 0), (4, .int 0), (2, .long pl), (0, .ref (am 0)), (1, .int (nI k))]) hx hb d_M_meets_233 hl (by decide) rfl (fun ls hl => ?_)
          exact join_235 k s1_2 before1_2 (key.1) (key.2.1) (key.2.2.1) (key.2.2.2) _ _ _ hP hD hS (lv_sub hl [7, 8, 6, 3, 0] rfl)
      · refine lv_iconst (v := 1) hx hb d_M_meets_146 (by decide) ?_
        refine lv_goto (tgt := 151) hx hb d_M_meets_147 (by decide) ?_
        refine lv_istore (lv' := [(8, .int 1), (6, .int (nI k)), (5, .int 0), (4, .int 0), (2, .long pl), (0, .ref (am 0)), (1, .int (nI k))]) hx hb d_M_meets_151 hl (by decide) rfl (fun ls hl => ?_)
        refine lv_iload hx hb d_M_meets_153 (lv_at hl 0 rfl) ?_
        refine lv_if_eq (tgt := 183) hx hb d_M_meets_155 (by decide) (fun h => absurd h (by decide)) (fun _ => ?_)
        refine lv_aload_n hx hb d_M_meets_158 rfl (lv_at hl 5 rfl) ?_
        refine q_get 0 1 i_M rfl hx hb hts hown hE hP rfl (by decide) x_937 rfl d_M_meets_159 ?_
        refine lv_sipush (v := 211) hx hb d_M_meets_162 (by decide) ?_
        refine lv_iload_n hx hb d_M_meets_165 rfl (lv_at hl 6 rfl) ?_
        refine q_iadd (v := nI (211 + k)) hx hb d_M_meets_166 (nI_add 211 k) ?_
        refine q_lald (k := 211 + k) 1 hx hb hE hP rfl rfl (by omega) (by decide) d_M_meets_167 ?_
        refine lv_ldc2 (v := 2) hx hb hown (hts _ (List.mem_cons_of_mem _ x_976)) d_M_meets_168 ?_
        refine W.lcmp hx hb d_M_meets_171 ?_
        refine q_cmp_ne (tgt := 179) hx hb d_M_meets_172 (by decide) (fun h_172 => ?_) (fun h_172 => ?_)
        · refine lv_iconst (v := 0) hx hb d_M_meets_179 (by decide) ?_
          refine lv_goto (tgt := 214) hx hb d_M_meets_180 (by decide) ?_
          refine lv_istore (lv' := [(9, .int 0), (8, .int 1), (6, .int (nI k)), (5, .int 0), (4, .int 0), (2, .long pl), (0, .ref (am 0)), (1, .int (nI k))]) hx hb d_M_meets_214 hl (by decide) rfl (fun ls hl => ?_)
          refine lv_aload_n hx hb d_M_meets_216 rfl (lv_at hl 6 rfl) ?_
          refine lv_iload hx hb d_M_meets_217 (lv_at hl 0 rfl) ?_
          refine lv_if_eq (tgt := 226) hx hb d_M_meets_219 (by decide) (fun _ => ?_) (fun h => absurd h (by decide))
          refine lv_iload_n hx hb d_M_meets_226 rfl (lv_at hl 7 rfl) ?_
          refine lv_iconst (v := 1) hx hb d_M_meets_227 (by decide) ?_
          refine q_iadd (v := nI (k + 1)) hx hb d_M_meets_228 (nI_add k 1) ?_
          refine cWV (As := [.int (nI (k + 1))]) (rest := []) (q9 := 0) (ci := 8) K_M_removes x_1145 hx hb hml hown hts hE hV hS (c_M_removes l D ct st am th bu he S Bf cnt (k + 1) (hcnt) (by omega) (by omega) _) hP hD hA [0, 1, 2] [] (wr := []) rfl rfl (by decide) (by decide) (by decide) rfl hP rfl rfl hl.1 rfl (Nat.le_of_ble_eq_true rfl) d_M_meets_229 (Nat.le_of_ble_eq_true rfl) (Nat.le_of_ble_eq_true rfl) ⟨Nat.le_of_ble_eq_true rfl, Nat.le_of_ble_eq_true rfl⟩ (fun v W1 H locs hpost hP hD hS => ?_)
          obtain ⟨s1_3, before1_3, rfl, rfl, hq_229⟩ := hpost
          have hP : va_P D classes [((am 0), .inr (8, [.int th, .ref (am 1), .ref (am 2), .ref (am 3), .ref (am 4), .ref (am 5), .long bu, .long he, .ref (am 6), .ref (am 7)])), ((am 1), .inl (ct 1, 334, .inr (.inl s1_3))), ((am 6), .inl (ct 1, 9, .inr (.inl before1_3)))] H := hP
          have hD : va_D A [((am 0), .inr (8, [.int th, .ref (am 1), .ref (am 2), .ref (am 3), .ref (am 4), .ref (am 5), .long bu, .long he, .ref (am 6), .ref (am 7)])), ((am 1), .inl (ct 1, 334, .inr (.inl s1_3))), ((am 6), .inl (ct 1, 9, .inr (.inl before1_3)))] := hD
          have key : k = (mt cnt (fS S Bf) k).2.2 ∧ s1_3 210 = lN (mt cnt (fS S Bf) k).1 ∧ (∀ a j, a < 5 → j < (mt cnt (fS S Bf) k).1 → Ex a j k k ∨ fS s1_3 before1_3 a j = (mt cnt (fS S Bf) k).2.1 a j) ∧ oth s1_3 S := by
            have hg9 : ∀ a j, a < 5 → j < cnt - 1 → fS s1_3 before1_3 a j = r_rem (fS S Bf) (mt_gone (fS S Bf) k) a j := by
              intro a j ha hj
              rw [hq_229.1 a j ha hj]
              congr 1
              unfold mt_gone
              rw [fS0, fS0, fS3, fS3]
              first
              | (rw [if_neg (fun z => h_143 (Int64.toInt_inj.mp z)), if_pos (eq2.mp h_172)])
              | (rw [if_neg (fun z => h_143 (Int64.toInt_inj.mp z)), if_neg (fun z => h_172 (eq2.mpr z))])
              | (rw [if_pos (congrArg Int64.toInt h_143), if_neg (fun z => absurd (Int64.lt_iff_toInt_lt.mpr z) (Int64.not_lt.mpr h_206))])
              | (rw [if_pos (congrArg Int64.toInt h_143), if_pos (Int64.lt_iff_toInt_lt.mp (Int64.not_le.mp h_206))])
            have key := gon (n := cnt) (F := fS S Bf) (by rw [fS0, fS0]; exact fun z => absurd (eq0.mpr z.1) h_42) (by rw [fS0, fS0]; exact fun z => z.elim (fun w => absurd (eq0.mpr w) h_42) (fun w => absurd (eq0.mpr w) h_66)) hk hg9
            exact ⟨key.2.1.symm, by rw [key.1]; exact hq_229.2.1, by rw [key.1]; exact key.2.2, hq_229.2.2⟩
          refine lv_iload_n hx hb d_M_meets_232 rfl (lv_at hl 7 rfl) ?_
          refine lv_istore (lv' := [(7, .int (nI k)), (9, .int 0), (8, .int 1), (6, .int (nI k)), (5, .int 0), (4, .int 0), (2, .long pl), (0, .ref (am 0)), (1, .int (nI k))]) hx hb d_M_meets_233 hl (by decide) rfl (fun ls hl => ?_)
          exact join_235 k s1_3 before1_3 (key.1) (key.2.1) (key.2.2.1) (key.2.2.2) _ _ _ hP hD hS (lv_sub hl [7, 8, 6, 3, 0] rfl)
        · refine lv_iconst (v := 1) hx hb d_M_meets_175 (by decide) ?_
          refine lv_goto (tgt := 214) hx hb d_M_meets_176 (by decide) ?_
          refine lv_istore (lv' := [(9, .int 1), (8, .int 1), (6, .int (nI k)), (5, .int 0), (4, .int 0), (2, .long pl), (0, .ref (am 0)), (1, .int (nI k))]) hx hb d_M_meets_214 hl (by decide) rfl (fun ls hl => ?_)
          refine lv_aload_n hx hb d_M_meets_216 rfl (lv_at hl 6 rfl) ?_
          refine lv_iload hx hb d_M_meets_217 (lv_at hl 0 rfl) ?_
          refine lv_if_eq (tgt := 226) hx hb d_M_meets_219 (by decide) (fun h => absurd h (by decide)) (fun _ => ?_)
          refine lv_iload_n hx hb d_M_meets_222 rfl (lv_at hl 7 rfl) ?_
          refine lv_goto (tgt := 229) hx hb d_M_meets_223 (by decide) ?_
          refine cWV (As := [.int (nI k)]) (rest := []) (q9 := 0) (ci := 8) K_M_removes x_1145 hx hb hml hown hts hE hV hS (c_M_removes l D ct st am th bu he S Bf cnt k (hcnt) (by omega) (by omega) _) hP hD hA [0, 1, 2] [] (wr := []) rfl rfl (by decide) (by decide) (by decide) rfl hP rfl rfl hl.1 rfl (Nat.le_of_ble_eq_true rfl) d_M_meets_229 (Nat.le_of_ble_eq_true rfl) (Nat.le_of_ble_eq_true rfl) ⟨Nat.le_of_ble_eq_true rfl, Nat.le_of_ble_eq_true rfl⟩ (fun v W1 H locs hpost hP hD hS => ?_)
          obtain ⟨s1_4, before1_4, rfl, rfl, hq_229⟩ := hpost
          have hP : va_P D classes [((am 0), .inr (8, [.int th, .ref (am 1), .ref (am 2), .ref (am 3), .ref (am 4), .ref (am 5), .long bu, .long he, .ref (am 6), .ref (am 7)])), ((am 1), .inl (ct 1, 334, .inr (.inl s1_4))), ((am 6), .inl (ct 1, 9, .inr (.inl before1_4)))] H := hP
          have hD : va_D A [((am 0), .inr (8, [.int th, .ref (am 1), .ref (am 2), .ref (am 3), .ref (am 4), .ref (am 5), .long bu, .long he, .ref (am 6), .ref (am 7)])), ((am 1), .inl (ct 1, 334, .inr (.inl s1_4))), ((am 6), .inl (ct 1, 9, .inr (.inl before1_4)))] := hD
          have key : k = (mt cnt (fS S Bf) k).2.2 ∧ s1_4 210 = lN (mt cnt (fS S Bf) k).1 ∧ (∀ a j, a < 5 → j < (mt cnt (fS S Bf) k).1 → Ex a j k k ∨ fS s1_4 before1_4 a j = (mt cnt (fS S Bf) k).2.1 a j) ∧ oth s1_4 S := by
            have hg9 : ∀ a j, a < 5 → j < cnt - 1 → fS s1_4 before1_4 a j = r_rem (fS S Bf) (mt_gone (fS S Bf) k) a j := by
              intro a j ha hj
              rw [hq_229.1 a j ha hj]
              congr 1
              unfold mt_gone
              rw [fS0, fS0, fS3, fS3]
              first
              | (rw [if_neg (fun z => h_143 (Int64.toInt_inj.mp z)), if_pos (eq2.mp h_172)])
              | (rw [if_neg (fun z => h_143 (Int64.toInt_inj.mp z)), if_neg (fun z => h_172 (eq2.mpr z))])
              | (rw [if_pos (congrArg Int64.toInt h_143), if_neg (fun z => absurd (Int64.lt_iff_toInt_lt.mpr z) (Int64.not_lt.mpr h_206))])
              | (rw [if_pos (congrArg Int64.toInt h_143), if_pos (Int64.lt_iff_toInt_lt.mp (Int64.not_le.mp h_206))])
            have key := gon (n := cnt) (F := fS S Bf) (by rw [fS0, fS0]; exact fun z => absurd (eq0.mpr z.1) h_42) (by rw [fS0, fS0]; exact fun z => z.elim (fun w => absurd (eq0.mpr w) h_42) (fun w => absurd (eq0.mpr w) h_66)) hk hg9
            exact ⟨key.2.1.symm, by rw [key.1]; exact hq_229.2.1, by rw [key.1]; exact key.2.2, hq_229.2.2⟩
          refine lv_iload_n hx hb d_M_meets_232 rfl (lv_at hl 7 rfl) ?_
          refine lv_istore (lv' := [(7, .int (nI k)), (9, .int 1), (8, .int 1), (6, .int (nI k)), (5, .int 0), (4, .int 0), (2, .long pl), (0, .ref (am 0)), (1, .int (nI k))]) hx hb d_M_meets_233 hl (by decide) rfl (fun ls hl => ?_)
          exact join_235 k s1_4 before1_4 (key.1) (key.2.1) (key.2.2.1) (key.2.2.2) _ _ _ hP hD hS (lv_sub hl [7, 8, 6, 3, 0] rfl)
    · refine lv_iconst (v := 1) hx hb d_M_meets_69 (by decide) ?_
      refine lv_goto (tgt := 74) hx hb d_M_meets_70 (by decide) ?_
      refine lv_istore (lv' := [(5, .int 1), (4, .int 0), (2, .long pl), (0, .ref (am 0)), (1, .int (nI k))]) hx hb d_M_meets_74 hl (by decide) rfl (fun ls hl => ?_)
      refine lv_iload_n hx hb d_M_meets_76 rfl (lv_at hl 4 rfl) ?_
      refine lv_istore (lv' := [(6, .int (nI k)), (5, .int 1), (4, .int 0), (2, .long pl), (0, .ref (am 0)), (1, .int (nI k))]) hx hb d_M_meets_77 hl (by decide) rfl (fun ls hl => ?_)
      refine lv_iload hx hb d_M_meets_79 (lv_at hl 2 rfl) ?_
      refine lv_if_eq (tgt := 100) hx hb d_M_meets_81 (by decide) (fun _ => ?_) (fun h => absurd h (by decide))
      refine lv_iload hx hb d_M_meets_100 (lv_at hl 2 rfl) ?_
      refine lv_if_ne (tgt := 110) hx hb d_M_meets_102 (by decide) (fun h => absurd h (by decide)) (fun _ => ?_)
      refine lv_iload hx hb d_M_meets_105 (lv_at hl 1 rfl) ?_
      refine lv_if_eq (tgt := 120) hx hb d_M_meets_107 (by decide) (fun h => absurd h (by decide)) (fun _ => ?_)
      refine lv_aload_n hx hb d_M_meets_110 rfl (lv_at hl 4 rfl) ?_
      refine lv_iload_n hx hb d_M_meets_111 rfl (lv_at hl 5 rfl) ?_
      refine cWV (As := [.int (nI k)]) (rest := []) (q9 := 0) (ci := 8) K_M_passes x_1169 hx hb hml hown hts hE hV hS (c_M_passes l D ct st am th bu he S Bf cnt k (hcnt) (by omega) (by omega) (hFB) (by rw [fS0, fS0]; first | exact fun z => absurd (eq0.mpr z.1) h_42 | exact fun z => absurd (eq0.mpr z.2) h_66) (by rw [fS0, fS0]; first | exact Or.inl (eq0.mp h_42) | exact Or.inr (eq0.mp h_66)) _) hP hD hA [0, 1, 2] [] (wr := []) rfl rfl (by decide) (by decide) (by decide) rfl hP rfl rfl hl.1 rfl (Nat.le_of_ble_eq_true rfl) d_M_meets_112 (Nat.le_of_ble_eq_true rfl) (Nat.le_of_ble_eq_true rfl) ⟨Nat.le_of_ble_eq_true rfl, Nat.le_of_ble_eq_true rfl⟩ (fun v W1 H locs hpost hP hD hS => ?_)
      obtain ⟨s1_5, before1_5, rt9_1, rfl, rfl, hq_112⟩ := hpost
      have hP : va_P D classes [((am 0), .inr (8, [.int th, .ref (am 1), .ref (am 2), .ref (am 3), .ref (am 4), .ref (am 5), .long bu, .long he, .ref (am 6), .ref (am 7)])), ((am 1), .inl (ct 1, 334, .inr (.inl s1_5))), ((am 6), .inl (ct 1, 9, .inr (.inl before1_5)))] H := hP
      have hD : va_D A [((am 0), .inr (8, [.int th, .ref (am 1), .ref (am 2), .ref (am 3), .ref (am 4), .ref (am 5), .long bu, .long he, .ref (am 6), .ref (am 7)])), ((am 1), .inl (ct 1, 334, .inr (.inl s1_5))), ((am 6), .inl (ct 1, 9, .inr (.inl before1_5)))] := hD
      have key := hq_112
      refine lv_istore (lv' := [(7, .int (nI rt9_1)), (6, .int (nI k)), (5, .int 1), (4, .int 0), (2, .long pl), (0, .ref (am 0)), (1, .int (nI k))]) hx hb d_M_meets_115 hl (by decide) rfl (fun ls hl => ?_)
      refine lv_goto (tgt := 235) hx hb d_M_meets_117 (by decide) ?_
      exact join_235 rt9_1 s1_5 before1_5 (key.1) (key.2.1) (key.2.2.1) (key.2.2.2) _ _ _ hP hD hS (lv_sub hl [5, 6, 4, 1, 0] rfl)
  · refine lv_iconst (v := 1) hx hb d_M_meets_45 (by decide) ?_
    refine lv_goto (tgt := 50) hx hb d_M_meets_46 (by decide) ?_
    refine lv_istore (lv' := [(4, .int 1), (2, .long pl), (0, .ref (am 0)), (1, .int (nI k))]) hx hb d_M_meets_50 hl (by decide) rfl (fun ls hl => ?_)
    refine lv_aload_n hx hb d_M_meets_52 rfl (lv_at hl 2 rfl) ?_
    refine q_get 0 1 i_M rfl hx hb hts hown hE hP rfl (by decide) x_937 rfl d_M_meets_53 ?_
    refine lv_sipush (v := 211) hx hb d_M_meets_56 (by decide) ?_
    refine lv_iload_n hx hb d_M_meets_59 rfl (lv_at hl 3 rfl) ?_
    refine q_iadd (v := nI (211 + k)) hx hb d_M_meets_60 (nI_add 211 k) ?_
    refine lv_iconst (v := 1) hx hb d_M_meets_61 (by decide) ?_
    refine q_iadd (v := nI ((211 + k) + 1)) hx hb d_M_meets_62 (nI_add (211 + k) 1) ?_
    refine q_lald (k := (211 + k) + 1) 1 hx hb hE hP rfl rfl (by omega) (by decide) d_M_meets_63 ?_
    refine q_topl (v := S (211 + (k + 1))) (congrArg S (by omega)) ?_
    refine lv_lconst (v := 0) hx hb d_M_meets_64 (by decide) ?_
    refine W.lcmp hx hb d_M_meets_65 ?_
    refine q_cmp_ne (tgt := 73) hx hb d_M_meets_66 (by decide) (fun h_66 => ?_) (fun h_66 => ?_)
    · refine lv_iconst (v := 0) hx hb d_M_meets_73 (by decide) ?_
      refine lv_istore (lv' := [(5, .int 0), (4, .int 1), (2, .long pl), (0, .ref (am 0)), (1, .int (nI k))]) hx hb d_M_meets_74 hl (by decide) rfl (fun ls hl => ?_)
      refine lv_iload_n hx hb d_M_meets_76 rfl (lv_at hl 4 rfl) ?_
      refine lv_istore (lv' := [(6, .int (nI k)), (5, .int 0), (4, .int 1), (2, .long pl), (0, .ref (am 0)), (1, .int (nI k))]) hx hb d_M_meets_77 hl (by decide) rfl (fun ls hl => ?_)
      refine lv_iload hx hb d_M_meets_79 (lv_at hl 2 rfl) ?_
      refine lv_if_eq (tgt := 100) hx hb d_M_meets_81 (by decide) (fun h => absurd h (by decide)) (fun _ => ?_)
      refine lv_iload hx hb d_M_meets_84 (lv_at hl 1 rfl) ?_
      refine lv_if_eq (tgt := 100) hx hb d_M_meets_86 (by decide) (fun _ => ?_) (fun h => absurd h (by decide))
      refine lv_iload hx hb d_M_meets_100 (lv_at hl 2 rfl) ?_
      refine lv_if_ne (tgt := 110) hx hb d_M_meets_102 (by decide) (fun _ => ?_) (fun h => absurd h (by decide))
      refine lv_aload_n hx hb d_M_meets_110 rfl (lv_at hl 4 rfl) ?_
      refine lv_iload_n hx hb d_M_meets_111 rfl (lv_at hl 5 rfl) ?_
      refine cWV (As := [.int (nI k)]) (rest := []) (q9 := 0) (ci := 8) K_M_passes x_1169 hx hb hml hown hts hE hV hS (c_M_passes l D ct st am th bu he S Bf cnt k (hcnt) (by omega) (by omega) (hFB) (by rw [fS0, fS0]; first | exact fun z => absurd (eq0.mpr z.1) h_42 | exact fun z => absurd (eq0.mpr z.2) h_66) (by rw [fS0, fS0]; first | exact Or.inl (eq0.mp h_42) | exact Or.inr (eq0.mp h_66)) _) hP hD hA [0, 1, 2] [] (wr := []) rfl rfl (by decide) (by decide) (by decide) rfl hP rfl rfl hl.1 rfl (Nat.le_of_ble_eq_true rfl) d_M_meets_112 (Nat.le_of_ble_eq_true rfl) (Nat.le_of_ble_eq_true rfl) ⟨Nat.le_of_ble_eq_true rfl, Nat.le_of_ble_eq_true rfl⟩ (fun v W1 H locs hpost hP hD hS => ?_)
      obtain ⟨s1_6, before1_6, rt9_2, rfl, rfl, hq_112⟩ := hpost
      have hP : va_P D classes [((am 0), .inr (8, [.int th, .ref (am 1), .ref (am 2), .ref (am 3), .ref (am 4), .ref (am 5), .long bu, .long he, .ref (am 6), .ref (am 7)])), ((am 1), .inl (ct 1, 334, .inr (.inl s1_6))), ((am 6), .inl (ct 1, 9, .inr (.inl before1_6)))] H := hP
      have hD : va_D A [((am 0), .inr (8, [.int th, .ref (am 1), .ref (am 2), .ref (am 3), .ref (am 4), .ref (am 5), .long bu, .long he, .ref (am 6), .ref (am 7)])), ((am 1), .inl (ct 1, 334, .inr (.inl s1_6))), ((am 6), .inl (ct 1, 9, .inr (.inl before1_6)))] := hD
      have key := hq_112
      refine lv_istore (lv' := [(7, .int (nI rt9_2)), (6, .int (nI k)), (5, .int 0), (4, .int 1), (2, .long pl), (0, .ref (am 0)), (1, .int (nI k))]) hx hb d_M_meets_115 hl (by decide) rfl (fun ls hl => ?_)
      refine lv_goto (tgt := 235) hx hb d_M_meets_117 (by decide) ?_
      exact join_235 rt9_2 s1_6 before1_6 (key.1) (key.2.1) (key.2.2.1) (key.2.2.2) _ _ _ hP hD hS (lv_sub hl [5, 6, 4, 1, 0] rfl)
    · refine lv_iconst (v := 1) hx hb d_M_meets_69 (by decide) ?_
      refine lv_goto (tgt := 74) hx hb d_M_meets_70 (by decide) ?_
      refine lv_istore (lv' := [(5, .int 1), (4, .int 1), (2, .long pl), (0, .ref (am 0)), (1, .int (nI k))]) hx hb d_M_meets_74 hl (by decide) rfl (fun ls hl => ?_)
      refine lv_iload_n hx hb d_M_meets_76 rfl (lv_at hl 4 rfl) ?_
      refine lv_istore (lv' := [(6, .int (nI k)), (5, .int 1), (4, .int 1), (2, .long pl), (0, .ref (am 0)), (1, .int (nI k))]) hx hb d_M_meets_77 hl (by decide) rfl (fun ls hl => ?_)
      refine lv_iload hx hb d_M_meets_79 (lv_at hl 2 rfl) ?_
      refine lv_if_eq (tgt := 100) hx hb d_M_meets_81 (by decide) (fun h => absurd h (by decide)) (fun _ => ?_)
      refine lv_iload hx hb d_M_meets_84 (lv_at hl 1 rfl) ?_
      refine lv_if_eq (tgt := 100) hx hb d_M_meets_86 (by decide) (fun h => absurd h (by decide)) (fun _ => ?_)
      refine lv_aload_n hx hb d_M_meets_89 rfl (lv_at hl 4 rfl) ?_
      refine lv_iload_n hx hb d_M_meets_90 rfl (lv_at hl 5 rfl) ?_
      refine lv_lload_n hx hb d_M_meets_91 rfl (lv_at hl 3 rfl) ?_
      refine cWV (As := [.int (nI k), .long pl]) (rest := []) (q9 := 0) (ci := 8) K_M_shocksMeet x_1157 hx hb hml hown hts hE hV hS (c_M_shocksMeet l D ct st am th bu he S Bf cnt k pl (hcnt) (by omega) (by omega) (hFB) (by rw [fS0, fS0]; exact ⟨eq0.mp h_42, eq0.mp h_66⟩) (hpl) _) hP hD hA [0, 1, 2] [] (wr := []) rfl rfl (by decide) (by decide) (by decide) rfl hP rfl rfl hl.1 rfl (Nat.le_of_ble_eq_true rfl) d_M_meets_92 (Nat.le_of_ble_eq_true rfl) (Nat.le_of_ble_eq_true rfl) ⟨Nat.le_of_ble_eq_true rfl, Nat.le_of_ble_eq_true rfl⟩ (fun v W1 H locs hpost hP hD hS => ?_)
      obtain ⟨s1_7, before1_7, rt9_3, rfl, rfl, hq_92⟩ := hpost
      have hP : va_P D classes [((am 0), .inr (8, [.int th, .ref (am 1), .ref (am 2), .ref (am 3), .ref (am 4), .ref (am 5), .long bu, .long he, .ref (am 6), .ref (am 7)])), ((am 1), .inl (ct 1, 334, .inr (.inl s1_7))), ((am 6), .inl (ct 1, 9, .inr (.inl before1_7)))] H := hP
      have hD : va_D A [((am 0), .inr (8, [.int th, .ref (am 1), .ref (am 2), .ref (am 3), .ref (am 4), .ref (am 5), .long bu, .long he, .ref (am 6), .ref (am 7)])), ((am 1), .inl (ct 1, 334, .inr (.inl s1_7))), ((am 6), .inl (ct 1, 9, .inr (.inl before1_7)))] := hD
      have key := hq_92
      refine lv_istore (lv' := [(7, .int (nI rt9_3)), (6, .int (nI k)), (5, .int 1), (4, .int 1), (2, .long pl), (0, .ref (am 0)), (1, .int (nI k))]) hx hb d_M_meets_95 hl (by decide) rfl (fun ls hl => ?_)
      refine lv_goto (tgt := 235) hx hb d_M_meets_97 (by decide) ?_
      exact join_235 rt9_3 s1_7 before1_7 (key.1) (key.2.1) (key.2.2.1) (key.2.2.2) _ _ _ hP hD hS (lv_sub hl [5, 6, 4, 1, 0] rfl)
theorem mvA {F T G1 : RF} {i k : Nat} (h0 : G1 0 k = F 0 i) (h1 : G1 1 k = mvf F i 1) (h2 : G1 2 k = mvf F i 2) (h3 : G1 3 k = mvf F i 3) (h4 : G1 4 k = F 1 i) (hh : ∀ a j, a < 5 → j < 8 → ¬ j = k → G1 a j = T a j) : ∀ a j, a < 5 → j < 8 → G1 a j = if j = k then mvf F i a else T a j := by
  intro a j ha hj
  by_cases q : j = k
  · rw [if_pos q, q]
    rcases a5 ha with rfl | rfl | rfl | rfl | rfl
    · rw [h0, mvf0]
    · exact h1
    · exact h2
    · exact h3
    · rw [h4, mvf4]
  · rw [if_neg q]; exact hh a j ha hj q
theorem fS_hh {S S1 Bf B1 : Nat → Int64} {k : Nat} (h0 : ∀ j, j < 8 → ¬ j = k → S1 (211 + j) = S (211 + j)) (h1 : ∀ j, j < 8 → ¬ j = k → S1 (219 + j) = S (219 + j)) (h2 : ∀ j, j < 8 → ¬ j = k → S1 (227 + j) = S (227 + j)) (h3 : ∀ j, j < 8 → ¬ j = k → S1 (235 + j) = S (235 + j)) (h4 : ∀ j, j < 8 → ¬ j = k → B1 j = Bf j) : ∀ a j, a < 5 → j < 8 → ¬ j = k → fS S1 B1 a j = fS S Bf a j := by
  intro a j ha hj hk
  rcases a5 ha with rfl | rfl | rfl | rfl | rfl
  · rw [fS0, fS0, h0 j hj hk]
  · rw [fS1, fS1, h1 j hj hk]
  · rw [fS2, fS2, h2 j hj hk]
  · rw [fS3, fS3, h3 j hj hk]
  · rw [fS4, fS4, h4 j hj hk]
set_option maxHeartbeats 4000000 in
set_option maxRecDepth 100000 in
theorem c_M_moves (l : Launch) (D : va_G) (ct : Nat → ClassId) (st : Nat → Nat) (am : Nat → Nat) (th : Int32) (bu : Int64) (he : Int64) (S : Nat → Int64) (Bf : Nat → Int64) (cnt : Nat) (hcnt : S 210 = lN cnt) (hn8 : cnt ≤ 8) (hFB : FB cnt (fS S Bf)) (sz : Nat) : Met l y_M_moves (wsy y_M_moves b_M_moves 5 (none)) (rmW 2 0 0 44) (PcW D ct st [.ref (am 0)] [((am 0), .inr (8, [.int th, .ref (am 1), .ref (am 2), .ref (am 3), .ref (am 4), .ref (am 5), .long bu, .long he, .ref (am 6), .ref (am 7)])), ((am 1), .inl (ct 1, 334, .inr (.inl S))), ((am 6), .inl (ct 1, 9, .inr (.inl Bf)))] sz) (QcW D [((am 0), .inr (8, [.int th, .ref (am 1), .ref (am 2), .ref (am 3), .ref (am 4), .ref (am 5), .long bu, .long he, .ref (am 6), .ref (am 7)])), ((am 1), .inl (ct 1, 334, .inr (.inl S))), ((am 6), .inl (ct 1, 9, .inr (.inl Bf)))] sz (fun v W1 => ∃ (s1 : Nat → Int64) (before1 : Nat → Int64), v = none ∧ W1 = [((am 0), .inr (8, [.int th, .ref (am 1), .ref (am 2), .ref (am 3), .ref (am 4), .ref (am 5), .long bu, .long he, .ref (am 6), .ref (am 7)])), ((am 1), .inl (ct 1, 334, .inr (.inl s1))), ((am 6), .inl (ct 1, 9, .inr (.inl before1)))] ∧ (s1 210 = lN (mv (fS S Bf) cnt).1 ∧ Ag (mv (fS S Bf) cnt).1 (fS s1 before1) (mv (fS S Bf) cnt).2 ∧ oth s1 S))) 0 0 (va_A [((am 0), .inr (8, [.int th, .ref (am 1), .ref (am 2), .ref (am 3), .ref (am 4), .ref (am 5), .long bu, .long he, .ref (am 6), .ref (am 7)])), ((am 1), .inl (ct 1, 334, .inr (.inl S))), ((am 6), .inl (ct 1, 9, .inr (.inl Bf)))] sz) := by
  refine enterW (by decide) (Nat.le_of_ble_eq_true rfl) ?_
  intro p e s m args below meth c ls A hx hb hr hml hown hts hlk hin hsz hAe hP hD hA hE hV hS hl
  have hl : lv_has ls 5 [(0, .ref (am 0))] := hl
  refine lv_iconst (v := 0) hx hb d_M_moves_0 (by decide) ?_
  refine lv_istore_n (lv' := [(1, .int 0), (0, .ref (am 0))]) hx hb d_M_moves_1 rfl hl (by decide) rfl (fun ls hl => ?_)
  have loop_2 : ∀ (n9 : Nat) (k : Nat) (i : Nat) (T : Nat → Int64) (B1 : Nat → Int64) (hi : i ≤ cnt) (hkk : k = (mv (fS S Bf) i).1) (hT2 : T 210 = lN (k + (cnt - i))) (hAA : ∀ a j, a < 5 → j < k → fS T B1 a j = (mv (fS S Bf) i).2 a j) (hBB : ∀ a j, a < 4 → j < cnt - i → fS T B1 a (k + j) = fS S Bf a (i + j)) (hot : oth T S) (hn9 : cnt - i < n9) (H : Heap) (locs : List Loc) (ls : Array Slot), va_P D classes [((am 0), .inr (8, [.int th, .ref (am 1), .ref (am 2), .ref (am 3), .ref (am 4), .ref (am 5), .long bu, .long he, .ref (am 6), .ref (am 7)])), ((am 1), .inl (ct 1, 334, .inr (.inl T))), ((am 6), .inl (ct 1, 9, .inr (.inl B1)))] H → va_D A [((am 0), .inr (8, [.int th, .ref (am 1), .ref (am 2), .ref (am 3), .ref (am 4), .ref (am 5), .long bu, .long he, .ref (am 6), .ref (am 7)])), ((am 1), .inl (ct 1, 334, .inr (.inl T))), ((am 6), .inl (ct 1, 9, .inr (.inl B1)))] → va_S A s.heap H locs → lv_has ls 5 [(0, .ref (am 0)), (1, .int (nI k))] → W p l e (rmW 2 0 0 44) s m args below meth c H locs (0) (0) (MQ below (QcW D [((am 0), .inr (8, [.int th, .ref (am 1), .ref (am 2), .ref (am 3), .ref (am 4), .ref (am 5), .long bu, .long he, .ref (am 6), .ref (am 7)])), ((am 1), .inl (ct 1, 334, .inr (.inl S))), ((am 6), .inl (ct 1, 9, .inr (.inl Bf)))] sz (fun v W1 => ∃ (s1 : Nat → Int64) (before1 : Nat → Int64), v = none ∧ W1 = [((am 0), .inr (8, [.int th, .ref (am 1), .ref (am 2), .ref (am 3), .ref (am 4), .ref (am 5), .long bu, .long he, .ref (am 6), .ref (am 7)])), ((am 1), .inl (ct 1, 334, .inr (.inl s1))), ((am 6), .inl (ct 1, 9, .inr (.inl before1)))] ∧ (s1 210 = lN (mv (fS S Bf) cnt).1 ∧ Ag (mv (fS S Bf) cnt).1 (fS s1 before1) (mv (fS S Bf) cnt).2 ∧ oth s1 S))) args s 0 0 A) (F0 m 2 ls []) := by
    intro n9
    induction n9 with
    | zero => intro k i T B1 hi hkk hT2 hAA hBB hot hn9 H locs ls hP hD hS hl; exact absurd hn9 (Nat.not_lt_zero _)
    | succ n9 ih_2 =>
      intro k i T B1 hi hkk hT2 hAA hBB hot hn9 H locs ls hP hD hS hl
      have hki := mv_le (fS S Bf) i
      refine lv_iload_n hx hb d_M_moves_2 rfl (lv_at hl 1 rfl) ?_
      refine lv_i2l (v := lN k) hx hb d_M_moves_3 (nI_l (by omega)) ?_
      refine lv_aload_n hx hb d_M_moves_4 rfl (lv_at hl 0 rfl) ?_
      refine q_get 0 1 i_M rfl hx hb hts hown hE hP rfl (by decide) x_937 rfl d_M_moves_5 ?_
      refine lv_sipush (v := 210) hx hb d_M_moves_8 (by decide) ?_
      refine q_lald (k := 210) 1 hx hb hE hP rfl rfl (by omega) (by decide) d_M_moves_11 ?_
      refine q_topl (v := lN (k + (cnt - i))) (hT2) ?_
      refine W.lcmp hx hb d_M_moves_12 ?_
      refine q_cmp_ge (tgt := 215) hx hb d_M_moves_13 (by decide) (fun h_13 => ?_) (fun h_13 => ?_)
      · have hic : i = cnt := by rw [lN_le (by omega) (by omega)] at h_13; omega
        exact rW_v hx hb hr hlk hAe hS hP hD (Nat.le_of_ble_eq_true rfl) (Nat.le_of_ble_eq_true rfl) d_M_moves_215 ⟨T, B1, rfl, rfl, ⟨by rw [hT2, hkk]; exact congrArg lN (by rw [hic, Nat.sub_self]; rfl), fun a j ha hj => by rw [hAA a j ha (by rw [hkk, hic]; exact hj), hic], hot⟩⟩
      · have hic : i < cnt := by rw [lN_le (by omega) (by omega)] at h_13; omega
        obtain ⟨r0, r1, r2, r3⟩ := hFB i hic
        have hz9 : (T (211 + k)).toInt = fS S Bf 0 i := by have := hBB 0 0 (by decide) (by omega); rw [fS0] at this; exact this
        have hx9 : (T (219 + k)).toInt = fS S Bf 1 i := by have := hBB 1 0 (by decide) (by omega); rw [fS1] at this; exact this
        have hy9 : (T (227 + k)).toInt = fS S Bf 2 i := by have := hBB 2 0 (by decide) (by omega); rw [fS2] at this; exact this
        have hw9 : (T (235 + k)).toInt = fS S Bf 3 i := by have := hBB 3 0 (by decide) (by omega); rw [fS3] at this; exact this
        refine lv_aload_n hx hb d_M_moves_16 rfl (lv_at hl 0 rfl) ?_
        refine q_get 0 8 i_M rfl hx hb hts hown hE hP rfl (by decide) x_944 rfl d_M_moves_17 ?_
        refine lv_iload_n hx hb d_M_moves_20 rfl (lv_at hl 1 rfl) ?_
        refine lv_aload_n hx hb d_M_moves_21 rfl (lv_at hl 0 rfl) ?_
        refine q_get 0 1 i_M rfl hx hb hts hown hE hP rfl (by decide) x_937 rfl d_M_moves_22 ?_
        refine lv_sipush (v := 219) hx hb d_M_moves_25 (by decide) ?_
        refine lv_iload_n hx hb d_M_moves_28 rfl (lv_at hl 1 rfl) ?_
        refine q_iadd (v := nI (219 + k)) hx hb d_M_moves_29 (nI_add 219 k) ?_
        refine q_lald (k := 219 + k) 1 hx hb hE hP rfl rfl (by omega) (by decide) d_M_moves_30 ?_
        obtain ⟨before_1, ebefore_1⟩ : ∃ g9 : Nat → Int64, g9 = vp_updL B1 k (T (219 + k)) := ⟨_, rfl⟩
        refine q_last (k := k) 2 (ws1 := [((am 0), .inr (8, [.int th, .ref (am 1), .ref (am 2), .ref (am 3), .ref (am 4), .ref (am 5), .long bu, .long he, .ref (am 6), .ref (am 7)])), ((am 1), .inl (ct 1, 334, .inr (.inl T))), ((am 6), .inl (ct 1, 9, .inr (.inl before_1)))]) ebefore_1 hx hb hE hP hD hS rfl rfl (by omega) (by decide) rfl d_M_moves_31 (fun H locs hP hD hS => ?_)
        refine lv_aload_n hx hb d_M_moves_32 rfl (lv_at hl 0 rfl) ?_
        refine q_get 0 1 i_M rfl hx hb hts hown hE hP rfl (by decide) x_937 rfl d_M_moves_33 ?_
        refine lv_sipush (v := 219) hx hb d_M_moves_36 (by decide) ?_
        refine lv_iload_n hx hb d_M_moves_39 rfl (lv_at hl 1 rfl) ?_
        refine q_iadd (v := nI (219 + k)) hx hb d_M_moves_40 (nI_add 219 k) ?_
        refine lv_dup2_11 hx hb d_M_moves_41 rfl rfl ?_
        refine q_lald (k := 219 + k) 1 hx hb hE hP rfl rfl (by omega) (by decide) d_M_moves_42 ?_
        refine lv_aload_n hx hb d_M_moves_43 rfl (lv_at hl 0 rfl) ?_
        refine q_get 0 1 i_M rfl hx hb hts hown hE hP rfl (by decide) x_937 rfl d_M_moves_44 ?_
        refine lv_sipush (v := 227) hx hb d_M_moves_47 (by decide) ?_
        refine lv_iload_n hx hb d_M_moves_50 rfl (lv_at hl 1 rfl) ?_
        refine q_iadd (v := nI (227 + k)) hx hb d_M_moves_51 (nI_add 227 k) ?_
        refine q_lald (k := 227 + k) 1 hx hb hE hP rfl rfl (by omega) (by decide) d_M_moves_52 ?_
        refine lv_ladd hx hb d_M_moves_53 ?_
        refine q_topl (v := T (219 + k) + T (227 + k)) (by rfl) ?_
        obtain ⟨s_1, es_1⟩ : ∃ g9 : Nat → Int64, g9 = vp_updL T (219 + k) (T (219 + k) + T (227 + k)) := ⟨_, rfl⟩
        refine q_last (k := 219 + k) 1 (ws1 := [((am 0), .inr (8, [.int th, .ref (am 1), .ref (am 2), .ref (am 3), .ref (am 4), .ref (am 5), .long bu, .long he, .ref (am 6), .ref (am 7)])), ((am 1), .inl (ct 1, 334, .inr (.inl s_1))), ((am 6), .inl (ct 1, 9, .inr (.inl before_1)))]) es_1 hx hb hE hP hD hS rfl rfl (by omega) (by decide) rfl d_M_moves_54 (fun H locs hP hD hS => ?_)
        refine lv_aload_n hx hb d_M_moves_55 rfl (lv_at hl 0 rfl) ?_
        refine q_get 0 1 i_M rfl hx hb hts hown hE hP rfl (by decide) x_937 rfl d_M_moves_56 ?_
        refine lv_sipush (v := 219) hx hb d_M_moves_59 (by decide) ?_
        refine lv_iload_n hx hb d_M_moves_62 rfl (lv_at hl 1 rfl) ?_
        refine q_iadd (v := nI (219 + k)) hx hb d_M_moves_63 (nI_add 219 k) ?_
        refine q_lald (k := 219 + k) 1 hx hb hE hP rfl rfl (by omega) (by decide) d_M_moves_64 ?_
        refine q_topl (v := T (219 + k) + T (227 + k)) (by simp (disch := omega) only [es_1, ebefore_1, pk_uLn, pk_uLs, pk_us, pk_un]) ?_
        refine lv_lconst (v := 0) hx hb d_M_moves_65 (by decide) ?_
        refine lv_ldc2 (v := 100000) hx hb hown (hts _ (List.mem_cons_of_mem _ x_929)) d_M_moves_66 ?_
        refine cRS (As := [.long (T (219 + k) + T (227 + k)), .long 0, .long 100000]) (rest := []) K_M_in x_978 hx hb hml hown hts hE hV hS (c_M_in l D ct st (T (219 + k) + T (227 + k)) 0 100000) (fun k q h => by simp at h) rfl hl.1 rfl (Nat.le_of_ble_eq_true rfl) d_M_moves_69 (Nat.le_of_ble_eq_true rfl) (Nat.le_of_ble_eq_true rfl) ⟨Nat.le_of_ble_eq_true rfl, Nat.le_of_ble_eq_true rfl⟩ ?_
        refine q_ifne_b (tgt := 79) hx hb d_M_moves_72 (by decide) (fun h_72 => ?_) (fun h_72 => ?_)
        · refine lv_iconst (v := 0) hx hb d_M_moves_79 (by decide) ?_
          refine lv_istore_n (lv' := [(2, .int 0), (0, .ref (am 0)), (1, .int (nI k))]) hx hb d_M_moves_80 rfl hl (by decide) rfl (fun ls hl => ?_)
          refine lv_iload_n hx hb d_M_moves_81 rfl (lv_at hl 0 rfl) ?_
          refine lv_if_eq (tgt := 108) hx hb d_M_moves_82 (by decide) (fun _ => ?_) (fun h => absurd h (by decide))
          refine lv_iload_n hx hb d_M_moves_108 rfl (lv_at hl 0 rfl) ?_
          refine lv_if_eq (tgt := 209) hx hb d_M_moves_109 (by decide) (fun _ => ?_) (fun h => absurd h (by decide))
          have hst9 : mv_st (fS S Bf) i := by first | exact Or.inl ((bey_iff hx9 hy9 r1 r2).mp h_72) | exact Or.inr (hz9.symm.trans (eq0.mp h_97))
          have hb9 : ¬ mv_bey (fS S Bf) i := (bey_iff hx9 hy9 r1 r2).mp h_72
          have hG9 : ∀ a j, a < 5 → j < 8 → fS s_1 before_1 a j = if j = k then mvf (fS S Bf) i a else fS T B1 a j := by
            refine mvA ?_ ?_ ?_ ?_ ?_ (fS_hh (S := T) (Bf := B1) (k := k) (fun j hj hk9 => by first | rfl | (simp (disch := omega) only [es_1, ebefore_1, pk_uLn, pk_uLs, pk_us, pk_un])) (fun j hj hk9 => by first | rfl | (simp (disch := omega) only [es_1, ebefore_1, pk_uLn, pk_uLs, pk_us, pk_un])) (fun j hj hk9 => by first | rfl | (simp (disch := omega) only [es_1, ebefore_1, pk_uLn, pk_uLs, pk_us, pk_un])) (fun j hj hk9 => by first | rfl | (simp (disch := omega) only [es_1, ebefore_1, pk_uLn, pk_uLs, pk_us, pk_un])) (fun j hj hk9 => by first | rfl | (simp (disch := omega) only [es_1, ebefore_1, pk_uLn, pk_uLs, pk_us, pk_un])))
            · rw [fS0]; simp (disch := omega) only [es_1, ebefore_1, pk_uLn, pk_uLs, pk_us, pk_un]; exact hz9
            · rw [fS1, mvf1, if_neg (fun z => hb9 (Or.inl z)), if_neg (fun z => hb9 (Or.inr z))]; simp (disch := omega) only [es_1, ebefore_1, pk_uLn, pk_uLs, pk_us, pk_un]; rw [tadd (K := 100000) (by omega) (by omega) (by omega), hx9, hy9]
            · rw [fS2, mvf2, if_neg hb9]; simp (disch := omega) only [es_1, ebefore_1, pk_uLn, pk_uLs, pk_us, pk_un]; exact hy9
            · rw [fS3, mvf3, if_neg hb9]; simp (disch := omega) only [es_1, ebefore_1, pk_uLn, pk_uLs, pk_us, pk_un]; exact hw9
            · rw [fS4]; simp (disch := omega) only [es_1, ebefore_1, pk_uLn, pk_uLs, pk_us, pk_un]; exact hx9
          have key := mv_sA (show i < cnt by omega) hn8 hkk hAA hBB hst9 hG9
          have hoth9 : oth s_1 S := fun j hj => by simp (disch := omega) only [es_1, ebefore_1, pk_uLn, pk_uLs, pk_us, pk_un]; exact hot j hj
          have hcn9 : s_1 210 = lN (k + 1 + (cnt - (i + 1))) := by simp (disch := omega) only [es_1, ebefore_1, pk_uLn, pk_uLs, pk_us, pk_un]; rw [hT2]; exact congrArg lN (by omega)
          refine lv_iinc (v := (nI (k + 1))) (lv' := [(1, .int (nI (k + 1))), (2, .int 0), (0, .ref (am 0))]) hx hb d_M_moves_209 hl (k := 2) rfl (nI_1 _) (by decide) rfl (fun ls hl => ?_)
          refine lv_goto (tgt := 2) hx hb d_M_moves_212 (by decide) ?_
          exact ih_2 (k + 1) (i + 1) s_1 before_1 (by omega) (key.1) (hcn9) (key.2.1) (key.2.2) (hoth9) (by omega) _ _ _ hP hD hS (lv_sub hl [2, 0] rfl)
        · refine lv_iconst (v := 1) hx hb d_M_moves_75 (by decide) ?_
          refine lv_goto (tgt := 80) hx hb d_M_moves_76 (by decide) ?_
          refine lv_istore_n (lv' := [(2, .int 1), (0, .ref (am 0)), (1, .int (nI k))]) hx hb d_M_moves_80 rfl hl (by decide) rfl (fun ls hl => ?_)
          refine lv_iload_n hx hb d_M_moves_81 rfl (lv_at hl 0 rfl) ?_
          refine lv_if_eq (tgt := 108) hx hb d_M_moves_82 (by decide) (fun h => absurd h (by decide)) (fun _ => ?_)
          refine lv_aload_n hx hb d_M_moves_85 rfl (lv_at hl 1 rfl) ?_
          refine q_get 0 1 i_M rfl hx hb hts hown hE hP rfl (by decide) x_937 rfl d_M_moves_86 ?_
          refine lv_sipush (v := 211) hx hb d_M_moves_89 (by decide) ?_
          refine lv_iload_n hx hb d_M_moves_92 rfl (lv_at hl 2 rfl) ?_
          refine q_iadd (v := nI (211 + k)) hx hb d_M_moves_93 (nI_add 211 k) ?_
          refine q_lald (k := 211 + k) 1 hx hb hE hP rfl rfl (by omega) (by decide) d_M_moves_94 ?_
          refine q_topl (v := T (211 + k)) (by simp (disch := omega) only [es_1, ebefore_1, pk_uLn, pk_uLs, pk_us, pk_un]) ?_
          refine lv_lconst (v := 0) hx hb d_M_moves_95 (by decide) ?_
          refine W.lcmp hx hb d_M_moves_96 ?_
          refine q_cmp_eq (tgt := 108) hx hb d_M_moves_97 (by decide) (fun h_97 => ?_) (fun h_97 => ?_)
          · refine lv_iload_n hx hb d_M_moves_108 rfl (lv_at hl 0 rfl) ?_
            refine lv_if_eq (tgt := 209) hx hb d_M_moves_109 (by decide) (fun h => absurd h (by decide)) (fun _ => ?_)
            refine lv_aload_n hx hb d_M_moves_112 rfl (lv_at hl 1 rfl) ?_
            refine q_get 0 1 i_M rfl hx hb hts hown hE hP rfl (by decide) x_937 rfl d_M_moves_113 ?_
            refine lv_sipush (v := 219) hx hb d_M_moves_116 (by decide) ?_
            refine lv_iload_n hx hb d_M_moves_119 rfl (lv_at hl 2 rfl) ?_
            refine q_iadd (v := nI (219 + k)) hx hb d_M_moves_120 (nI_add 219 k) ?_
            refine lv_aload_n hx hb d_M_moves_121 rfl (lv_at hl 1 rfl) ?_
            refine q_get 0 1 i_M rfl hx hb hts hown hE hP rfl (by decide) x_937 rfl d_M_moves_122 ?_
            refine lv_sipush (v := 219) hx hb d_M_moves_125 (by decide) ?_
            refine lv_iload_n hx hb d_M_moves_128 rfl (lv_at hl 2 rfl) ?_
            refine q_iadd (v := nI (219 + k)) hx hb d_M_moves_129 (nI_add 219 k) ?_
            refine q_lald (k := 219 + k) 1 hx hb hE hP rfl rfl (by omega) (by decide) d_M_moves_130 ?_
            refine q_topl (v := T (219 + k) + T (227 + k)) (by simp (disch := omega) only [es_1, ebefore_1, pk_uLn, pk_uLs, pk_us, pk_un]) ?_
            refine lv_lconst (v := 0) hx hb d_M_moves_131 (by decide) ?_
            refine W.lcmp hx hb d_M_moves_132 ?_
            refine q_cmp_ge (tgt := 140) hx hb d_M_moves_133 (by decide) (fun h_133 => ?_) (fun h_133 => ?_)
            · refine lv_ldc2 (v := 100000) hx hb hown (hts _ (List.mem_cons_of_mem _ x_929)) d_M_moves_140 ?_
              obtain ⟨s_2, es_2⟩ : ∃ g9 : Nat → Int64, g9 = vp_updL s_1 (219 + k) 100000 := ⟨_, rfl⟩
              refine q_last (k := 219 + k) 1 (ws1 := [((am 0), .inr (8, [.int th, .ref (am 1), .ref (am 2), .ref (am 3), .ref (am 4), .ref (am 5), .long bu, .long he, .ref (am 6), .ref (am 7)])), ((am 1), .inl (ct 1, 334, .inr (.inl s_2))), ((am 6), .inl (ct 1, 9, .inr (.inl before_1)))]) es_2 hx hb hE hP hD hS rfl rfl (by omega) (by decide) rfl d_M_moves_143 (fun H locs hP hD hS => ?_)
              refine lv_aload_n hx hb d_M_moves_144 rfl (lv_at hl 1 rfl) ?_
              refine q_get 0 1 i_M rfl hx hb hts hown hE hP rfl (by decide) x_937 rfl d_M_moves_145 ?_
              refine lv_sipush (v := 227) hx hb d_M_moves_148 (by decide) ?_
              refine lv_iload_n hx hb d_M_moves_151 rfl (lv_at hl 2 rfl) ?_
              refine q_iadd (v := nI (227 + k)) hx hb d_M_moves_152 (nI_add 227 k) ?_
              refine lv_aload_n hx hb d_M_moves_153 rfl (lv_at hl 1 rfl) ?_
              refine q_get 0 1 i_M rfl hx hb hts hown hE hP rfl (by decide) x_937 rfl d_M_moves_154 ?_
              refine lv_sipush (v := 227) hx hb d_M_moves_157 (by decide) ?_
              refine lv_iload_n hx hb d_M_moves_160 rfl (lv_at hl 2 rfl) ?_
              refine q_iadd (v := nI (227 + k)) hx hb d_M_moves_161 (nI_add 227 k) ?_
              refine q_lald (k := 227 + k) 1 hx hb hE hP rfl rfl (by omega) (by decide) d_M_moves_162 ?_
              refine q_topl (v := T (227 + k)) (by simp (disch := omega) only [es_2, es_1, ebefore_1, pk_uLn, pk_uLs, pk_us, pk_un]) ?_
              refine lv_lneg hx hb d_M_moves_163 ?_
              obtain ⟨s_3, es_3⟩ : ∃ g9 : Nat → Int64, g9 = vp_updL s_2 (227 + k) (-(T (227 + k))) := ⟨_, rfl⟩
              refine q_last (k := 227 + k) 1 (ws1 := [((am 0), .inr (8, [.int th, .ref (am 1), .ref (am 2), .ref (am 3), .ref (am 4), .ref (am 5), .long bu, .long he, .ref (am 6), .ref (am 7)])), ((am 1), .inl (ct 1, 334, .inr (.inl s_3))), ((am 6), .inl (ct 1, 9, .inr (.inl before_1)))]) es_3 hx hb hE hP hD hS rfl rfl (by omega) (by decide) rfl d_M_moves_164 (fun H locs hP hD hS => ?_)
              refine lv_ldc2 (v := 3) hx hb hown (hts _ (List.mem_cons_of_mem _ x_1045)) d_M_moves_165 ?_
              refine lv_aload_n hx hb d_M_moves_168 rfl (lv_at hl 1 rfl) ?_
              refine q_get 0 1 i_M rfl hx hb hts hown hE hP rfl (by decide) x_937 rfl d_M_moves_169 ?_
              refine lv_sipush (v := 235) hx hb d_M_moves_172 (by decide) ?_
              refine lv_iload_n hx hb d_M_moves_175 rfl (lv_at hl 2 rfl) ?_
              refine q_iadd (v := nI (235 + k)) hx hb d_M_moves_176 (nI_add 235 k) ?_
              refine q_lald (k := 235 + k) 1 hx hb hE hP rfl rfl (by omega) (by decide) d_M_moves_177 ?_
              refine q_topl (v := T (235 + k)) (by simp (disch := omega) only [es_3, es_2, es_1, ebefore_1, pk_uLn, pk_uLs, pk_us, pk_un]) ?_
              refine lv_lmul hx hb d_M_moves_178 ?_
              refine lv_ldc2 (v := 2) hx hb hown (hts _ (List.mem_cons_of_mem _ x_976)) d_M_moves_179 ?_
              refine lv_ldiv hx hb d_M_moves_182 (by decide) ?_
              refine lv_lstore_n (lv' := [(3, .long ((3 * (T (235 + k))) / 2)), (2, .int 1), (0, .ref (am 0)), (1, .int (nI k))]) hx hb d_M_moves_183 rfl hl (by decide) rfl (fun ls hl => ?_)
              refine lv_aload_n hx hb d_M_moves_184 rfl (lv_at hl 2 rfl) ?_
              refine q_get 0 1 i_M rfl hx hb hts hown hE hP rfl (by decide) x_937 rfl d_M_moves_185 ?_
              refine lv_sipush (v := 235) hx hb d_M_moves_188 (by decide) ?_
              refine lv_iload_n hx hb d_M_moves_191 rfl (lv_at hl 3 rfl) ?_
              refine q_iadd (v := nI (235 + k)) hx hb d_M_moves_192 (nI_add 235 k) ?_
              refine lv_lload_n hx hb d_M_moves_193 rfl (lv_at hl 0 rfl) ?_
              refine lv_ldc2 (v := 900) hx hb hown (hts _ (List.mem_cons_of_mem _ x_1123)) d_M_moves_194 ?_
              refine W.lcmp hx hb d_M_moves_197 ?_
              refine q_cmp_le (tgt := 207) hx hb d_M_moves_198 (by decide) (fun h_198 => ?_) (fun h_198 => ?_)
              · refine lv_lload_n hx hb d_M_moves_207 rfl (lv_at hl 0 rfl) ?_
                obtain ⟨s_4, es_4⟩ : ∃ g9 : Nat → Int64, g9 = vp_updL s_3 (235 + k) ((3 * (T (235 + k))) / 2) := ⟨_, rfl⟩
                refine q_last (k := 235 + k) 1 (ws1 := [((am 0), .inr (8, [.int th, .ref (am 1), .ref (am 2), .ref (am 3), .ref (am 4), .ref (am 5), .long bu, .long he, .ref (am 6), .ref (am 7)])), ((am 1), .inl (ct 1, 334, .inr (.inl s_4))), ((am 6), .inl (ct 1, 9, .inr (.inl before_1)))]) es_4 hx hb hE hP hD hS rfl rfl (by omega) (by decide) rfl d_M_moves_208 (fun H locs hP hD hS => ?_)
                have hst9 : mv_st (fS S Bf) i := by first | exact Or.inl ((bey_iff hx9 hy9 r1 r2).mp h_72) | exact Or.inr (hz9.symm.trans (eq0.mp h_97))
                have es9 : (T (219 + k) + T (227 + k)).toInt = fS S Bf 1 i + fS S Bf 2 i := by rw [tadd (K := 100000) (by omega) (by omega) (by omega), hx9, hy9]
                have hb9 : mv_bey (fS S Bf) i := Classical.byContradiction fun z => h_72 ((bey_iff hx9 hy9 r1 r2).mpr z)
                have hG9 : ∀ a j, a < 5 → j < 8 → fS s_4 before_1 a j = if j = k then mvf (fS S Bf) i a else fS T B1 a j := by
                  refine mvA ?_ ?_ ?_ ?_ ?_ (fS_hh (S := T) (Bf := B1) (k := k) (fun j hj hk9 => by first | rfl | (simp (disch := omega) only [es_4, es_3, es_2, es_1, ebefore_1, pk_uLn, pk_uLs, pk_us, pk_un])) (fun j hj hk9 => by first | rfl | (simp (disch := omega) only [es_4, es_3, es_2, es_1, ebefore_1, pk_uLn, pk_uLs, pk_us, pk_un])) (fun j hj hk9 => by first | rfl | (simp (disch := omega) only [es_4, es_3, es_2, es_1, ebefore_1, pk_uLn, pk_uLs, pk_us, pk_un])) (fun j hj hk9 => by first | rfl | (simp (disch := omega) only [es_4, es_3, es_2, es_1, ebefore_1, pk_uLn, pk_uLs, pk_us, pk_un])) (fun j hj hk9 => by first | rfl | (simp (disch := omega) only [es_4, es_3, es_2, es_1, ebefore_1, pk_uLn, pk_uLs, pk_us, pk_un])))
                  · rw [fS0]; simp (disch := omega) only [es_4, es_3, es_2, es_1, ebefore_1, pk_uLn, pk_uLs, pk_us, pk_un]; exact hz9
                  · rw [fS1, mvf1]; simp (disch := omega) only [es_4, es_3, es_2, es_1, ebefore_1, pk_uLn, pk_uLs, pk_us, pk_un]
                    first
                    | (rw [if_pos (by have := (lt0 _).mp (Int64.not_le.mp h_133); omega)]; rfl)
                    | (have c9 := (le0 _).mp h_133; rw [if_neg (by omega), if_pos (by rcases hb9 with z | z <;> omega)]; rfl)
                  · rw [fS2, mvf2, if_pos hb9]; simp (disch := omega) only [es_4, es_3, es_2, es_1, ebefore_1, pk_uLn, pk_uLs, pk_us, pk_un]; rw [neg_t (by omega), hy9]
                  · rw [fS3, mvf3, if_pos hb9]; simp (disch := omega) only [es_4, es_3, es_2, es_1, ebefore_1, pk_uLn, pk_uLs, pk_us, pk_un]
                    rw [← hw9, ← three (by omega)]
                    unfold r_min
                    first
                    | (rw [if_neg (by have : ((3 * T (235 + k) / 2).toInt ≤ 900) := Int64.le_iff_toInt_le.mp h_198; omega)])
                    | (rw [if_pos (by have : ¬ ((3 * T (235 + k) / 2).toInt ≤ 900) := fun z => h_198 (Int64.le_iff_toInt_le.mpr z); omega)]; rfl)
                  · rw [fS4]; simp (disch := omega) only [es_4, es_3, es_2, es_1, ebefore_1, pk_uLn, pk_uLs, pk_us, pk_un]; exact hx9
                have key := mv_sA (show i < cnt by omega) hn8 hkk hAA hBB hst9 hG9
                have hoth9 : oth s_4 S := fun j hj => by simp (disch := omega) only [es_4, es_3, es_2, es_1, ebefore_1, pk_uLn, pk_uLs, pk_us, pk_un]; exact hot j hj
                have hcn9 : s_4 210 = lN (k + 1 + (cnt - (i + 1))) := by simp (disch := omega) only [es_4, es_3, es_2, es_1, ebefore_1, pk_uLn, pk_uLs, pk_us, pk_un]; rw [hT2]; exact congrArg lN (by omega)
                refine lv_iinc (v := (nI (k + 1))) (lv' := [(1, .int (nI (k + 1))), (3, .long ((3 * (T (235 + k))) / 2)), (2, .int 1), (0, .ref (am 0))]) hx hb d_M_moves_209 hl (k := 3) rfl (nI_1 _) (by decide) rfl (fun ls hl => ?_)
                refine lv_goto (tgt := 2) hx hb d_M_moves_212 (by decide) ?_
                exact ih_2 (k + 1) (i + 1) s_4 before_1 (by omega) (key.1) (hcn9) (key.2.1) (key.2.2) (hoth9) (by omega) _ _ _ hP hD hS (lv_sub hl [3, 0] rfl)
              · refine lv_ldc2 (v := 900) hx hb hown (hts _ (List.mem_cons_of_mem _ x_1123)) d_M_moves_201 ?_
                refine lv_goto (tgt := 208) hx hb d_M_moves_204 (by decide) ?_
                obtain ⟨s_5, es_5⟩ : ∃ g9 : Nat → Int64, g9 = vp_updL s_3 (235 + k) 900 := ⟨_, rfl⟩
                refine q_last (k := 235 + k) 1 (ws1 := [((am 0), .inr (8, [.int th, .ref (am 1), .ref (am 2), .ref (am 3), .ref (am 4), .ref (am 5), .long bu, .long he, .ref (am 6), .ref (am 7)])), ((am 1), .inl (ct 1, 334, .inr (.inl s_5))), ((am 6), .inl (ct 1, 9, .inr (.inl before_1)))]) es_5 hx hb hE hP hD hS rfl rfl (by omega) (by decide) rfl d_M_moves_208 (fun H locs hP hD hS => ?_)
                have hst9 : mv_st (fS S Bf) i := by first | exact Or.inl ((bey_iff hx9 hy9 r1 r2).mp h_72) | exact Or.inr (hz9.symm.trans (eq0.mp h_97))
                have es9 : (T (219 + k) + T (227 + k)).toInt = fS S Bf 1 i + fS S Bf 2 i := by rw [tadd (K := 100000) (by omega) (by omega) (by omega), hx9, hy9]
                have hb9 : mv_bey (fS S Bf) i := Classical.byContradiction fun z => h_72 ((bey_iff hx9 hy9 r1 r2).mpr z)
                have hG9 : ∀ a j, a < 5 → j < 8 → fS s_5 before_1 a j = if j = k then mvf (fS S Bf) i a else fS T B1 a j := by
                  refine mvA ?_ ?_ ?_ ?_ ?_ (fS_hh (S := T) (Bf := B1) (k := k) (fun j hj hk9 => by first | rfl | (simp (disch := omega) only [es_5, es_3, es_2, es_1, ebefore_1, pk_uLn, pk_uLs, pk_us, pk_un])) (fun j hj hk9 => by first | rfl | (simp (disch := omega) only [es_5, es_3, es_2, es_1, ebefore_1, pk_uLn, pk_uLs, pk_us, pk_un])) (fun j hj hk9 => by first | rfl | (simp (disch := omega) only [es_5, es_3, es_2, es_1, ebefore_1, pk_uLn, pk_uLs, pk_us, pk_un])) (fun j hj hk9 => by first | rfl | (simp (disch := omega) only [es_5, es_3, es_2, es_1, ebefore_1, pk_uLn, pk_uLs, pk_us, pk_un])) (fun j hj hk9 => by first | rfl | (simp (disch := omega) only [es_5, es_3, es_2, es_1, ebefore_1, pk_uLn, pk_uLs, pk_us, pk_un])))
                  · rw [fS0]; simp (disch := omega) only [es_5, es_3, es_2, es_1, ebefore_1, pk_uLn, pk_uLs, pk_us, pk_un]; exact hz9
                  · rw [fS1, mvf1]; simp (disch := omega) only [es_5, es_3, es_2, es_1, ebefore_1, pk_uLn, pk_uLs, pk_us, pk_un]
                    first
                    | (rw [if_pos (by have := (lt0 _).mp (Int64.not_le.mp h_133); omega)]; rfl)
                    | (have c9 := (le0 _).mp h_133; rw [if_neg (by omega), if_pos (by rcases hb9 with z | z <;> omega)]; rfl)
                  · rw [fS2, mvf2, if_pos hb9]; simp (disch := omega) only [es_5, es_3, es_2, es_1, ebefore_1, pk_uLn, pk_uLs, pk_us, pk_un]; rw [neg_t (by omega), hy9]
                  · rw [fS3, mvf3, if_pos hb9]; simp (disch := omega) only [es_5, es_3, es_2, es_1, ebefore_1, pk_uLn, pk_uLs, pk_us, pk_un]
                    rw [← hw9, ← three (by omega)]
                    unfold r_min
                    first
                    | (rw [if_neg (by have : ((3 * T (235 + k) / 2).toInt ≤ 900) := Int64.le_iff_toInt_le.mp h_198; omega)])
                    | (rw [if_pos (by have : ¬ ((3 * T (235 + k) / 2).toInt ≤ 900) := fun z => h_198 (Int64.le_iff_toInt_le.mpr z); omega)]; rfl)
                  · rw [fS4]; simp (disch := omega) only [es_5, es_3, es_2, es_1, ebefore_1, pk_uLn, pk_uLs, pk_us, pk_un]; exact hx9
                have key := mv_sA (show i < cnt by omega) hn8 hkk hAA hBB hst9 hG9
                have hoth9 : oth s_5 S := fun j hj => by simp (disch := omega) only [es_5, es_3, es_2, es_1, ebefore_1, pk_uLn, pk_uLs, pk_us, pk_un]; exact hot j hj
                have hcn9 : s_5 210 = lN (k + 1 + (cnt - (i + 1))) := by simp (disch := omega) only [es_5, es_3, es_2, es_1, ebefore_1, pk_uLn, pk_uLs, pk_us, pk_un]; rw [hT2]; exact congrArg lN (by omega)
                refine lv_iinc (v := (nI (k + 1))) (lv' := [(1, .int (nI (k + 1))), (3, .long ((3 * (T (235 + k))) / 2)), (2, .int 1), (0, .ref (am 0))]) hx hb d_M_moves_209 hl (k := 3) rfl (nI_1 _) (by decide) rfl (fun ls hl => ?_)
                refine lv_goto (tgt := 2) hx hb d_M_moves_212 (by decide) ?_
                exact ih_2 (k + 1) (i + 1) s_5 before_1 (by omega) (key.1) (hcn9) (key.2.1) (key.2.2) (hoth9) (by omega) _ _ _ hP hD hS (lv_sub hl [3, 0] rfl)
            · refine lv_lconst (v := 0) hx hb d_M_moves_136 (by decide) ?_
              refine lv_goto (tgt := 143) hx hb d_M_moves_137 (by decide) ?_
              obtain ⟨s_6, es_6⟩ : ∃ g9 : Nat → Int64, g9 = vp_updL s_1 (219 + k) 0 := ⟨_, rfl⟩
              refine q_last (k := 219 + k) 1 (ws1 := [((am 0), .inr (8, [.int th, .ref (am 1), .ref (am 2), .ref (am 3), .ref (am 4), .ref (am 5), .long bu, .long he, .ref (am 6), .ref (am 7)])), ((am 1), .inl (ct 1, 334, .inr (.inl s_6))), ((am 6), .inl (ct 1, 9, .inr (.inl before_1)))]) es_6 hx hb hE hP hD hS rfl rfl (by omega) (by decide) rfl d_M_moves_143 (fun H locs hP hD hS => ?_)
              refine lv_aload_n hx hb d_M_moves_144 rfl (lv_at hl 1 rfl) ?_
              refine q_get 0 1 i_M rfl hx hb hts hown hE hP rfl (by decide) x_937 rfl d_M_moves_145 ?_
              refine lv_sipush (v := 227) hx hb d_M_moves_148 (by decide) ?_
              refine lv_iload_n hx hb d_M_moves_151 rfl (lv_at hl 2 rfl) ?_
              refine q_iadd (v := nI (227 + k)) hx hb d_M_moves_152 (nI_add 227 k) ?_
              refine lv_aload_n hx hb d_M_moves_153 rfl (lv_at hl 1 rfl) ?_
              refine q_get 0 1 i_M rfl hx hb hts hown hE hP rfl (by decide) x_937 rfl d_M_moves_154 ?_
              refine lv_sipush (v := 227) hx hb d_M_moves_157 (by decide) ?_
              refine lv_iload_n hx hb d_M_moves_160 rfl (lv_at hl 2 rfl) ?_
              refine q_iadd (v := nI (227 + k)) hx hb d_M_moves_161 (nI_add 227 k) ?_
              refine q_lald (k := 227 + k) 1 hx hb hE hP rfl rfl (by omega) (by decide) d_M_moves_162 ?_
              refine q_topl (v := T (227 + k)) (by simp (disch := omega) only [es_6, es_1, ebefore_1, pk_uLn, pk_uLs, pk_us, pk_un]) ?_
              refine lv_lneg hx hb d_M_moves_163 ?_
              obtain ⟨s_7, es_7⟩ : ∃ g9 : Nat → Int64, g9 = vp_updL s_6 (227 + k) (-(T (227 + k))) := ⟨_, rfl⟩
              refine q_last (k := 227 + k) 1 (ws1 := [((am 0), .inr (8, [.int th, .ref (am 1), .ref (am 2), .ref (am 3), .ref (am 4), .ref (am 5), .long bu, .long he, .ref (am 6), .ref (am 7)])), ((am 1), .inl (ct 1, 334, .inr (.inl s_7))), ((am 6), .inl (ct 1, 9, .inr (.inl before_1)))]) es_7 hx hb hE hP hD hS rfl rfl (by omega) (by decide) rfl d_M_moves_164 (fun H locs hP hD hS => ?_)
              refine lv_ldc2 (v := 3) hx hb hown (hts _ (List.mem_cons_of_mem _ x_1045)) d_M_moves_165 ?_
              refine lv_aload_n hx hb d_M_moves_168 rfl (lv_at hl 1 rfl) ?_
              refine q_get 0 1 i_M rfl hx hb hts hown hE hP rfl (by decide) x_937 rfl d_M_moves_169 ?_
              refine lv_sipush (v := 235) hx hb d_M_moves_172 (by decide) ?_
              refine lv_iload_n hx hb d_M_moves_175 rfl (lv_at hl 2 rfl) ?_
              refine q_iadd (v := nI (235 + k)) hx hb d_M_moves_176 (nI_add 235 k) ?_
              refine q_lald (k := 235 + k) 1 hx hb hE hP rfl rfl (by omega) (by decide) d_M_moves_177 ?_
              refine q_topl (v := T (235 + k)) (by simp (disch := omega) only [es_7, es_6, es_1, ebefore_1, pk_uLn, pk_uLs, pk_us, pk_un]) ?_
              refine lv_lmul hx hb d_M_moves_178 ?_
              refine lv_ldc2 (v := 2) hx hb hown (hts _ (List.mem_cons_of_mem _ x_976)) d_M_moves_179 ?_
              refine lv_ldiv hx hb d_M_moves_182 (by decide) ?_
              refine lv_lstore_n (lv' := [(3, .long ((3 * (T (235 + k))) / 2)), (2, .int 1), (0, .ref (am 0)), (1, .int (nI k))]) hx hb d_M_moves_183 rfl hl (by decide) rfl (fun ls hl => ?_)
              refine lv_aload_n hx hb d_M_moves_184 rfl (lv_at hl 2 rfl) ?_
              refine q_get 0 1 i_M rfl hx hb hts hown hE hP rfl (by decide) x_937 rfl d_M_moves_185 ?_
              refine lv_sipush (v := 235) hx hb d_M_moves_188 (by decide) ?_
              refine lv_iload_n hx hb d_M_moves_191 rfl (lv_at hl 3 rfl) ?_
              refine q_iadd (v := nI (235 + k)) hx hb d_M_moves_192 (nI_add 235 k) ?_
              refine lv_lload_n hx hb d_M_moves_193 rfl (lv_at hl 0 rfl) ?_
              refine lv_ldc2 (v := 900) hx hb hown (hts _ (List.mem_cons_of_mem _ x_1123)) d_M_moves_194 ?_
              refine W.lcmp hx hb d_M_moves_197 ?_
              refine q_cmp_le (tgt := 207) hx hb d_M_moves_198 (by decide) (fun h_198 => ?_) (fun h_198 => ?_)
              · refine lv_lload_n hx hb d_M_moves_207 rfl (lv_at hl 0 rfl) ?_
                obtain ⟨s_8, es_8⟩ : ∃ g9 : Nat → Int64, g9 = vp_updL s_7 (235 + k) ((3 * (T (235 + k))) / 2) := ⟨_, rfl⟩
                refine q_last (k := 235 + k) 1 (ws1 := [((am 0), .inr (8, [.int th, .ref (am 1), .ref (am 2), .ref (am 3), .ref (am 4), .ref (am 5), .long bu, .long he, .ref (am 6), .ref (am 7)])), ((am 1), .inl (ct 1, 334, .inr (.inl s_8))), ((am 6), .inl (ct 1, 9, .inr (.inl before_1)))]) es_8 hx hb hE hP hD hS rfl rfl (by omega) (by decide) rfl d_M_moves_208 (fun H locs hP hD hS => ?_)
                have hst9 : mv_st (fS S Bf) i := by first | exact Or.inl ((bey_iff hx9 hy9 r1 r2).mp h_72) | exact Or.inr (hz9.symm.trans (eq0.mp h_97))
                have es9 : (T (219 + k) + T (227 + k)).toInt = fS S Bf 1 i + fS S Bf 2 i := by rw [tadd (K := 100000) (by omega) (by omega) (by omega), hx9, hy9]
                have hb9 : mv_bey (fS S Bf) i := Classical.byContradiction fun z => h_72 ((bey_iff hx9 hy9 r1 r2).mpr z)
                have hG9 : ∀ a j, a < 5 → j < 8 → fS s_8 before_1 a j = if j = k then mvf (fS S Bf) i a else fS T B1 a j := by
                  refine mvA ?_ ?_ ?_ ?_ ?_ (fS_hh (S := T) (Bf := B1) (k := k) (fun j hj hk9 => by first | rfl | (simp (disch := omega) only [es_8, es_7, es_6, es_1, ebefore_1, pk_uLn, pk_uLs, pk_us, pk_un])) (fun j hj hk9 => by first | rfl | (simp (disch := omega) only [es_8, es_7, es_6, es_1, ebefore_1, pk_uLn, pk_uLs, pk_us, pk_un])) (fun j hj hk9 => by first | rfl | (simp (disch := omega) only [es_8, es_7, es_6, es_1, ebefore_1, pk_uLn, pk_uLs, pk_us, pk_un])) (fun j hj hk9 => by first | rfl | (simp (disch := omega) only [es_8, es_7, es_6, es_1, ebefore_1, pk_uLn, pk_uLs, pk_us, pk_un])) (fun j hj hk9 => by first | rfl | (simp (disch := omega) only [es_8, es_7, es_6, es_1, ebefore_1, pk_uLn, pk_uLs, pk_us, pk_un])))
                  · rw [fS0]; simp (disch := omega) only [es_8, es_7, es_6, es_1, ebefore_1, pk_uLn, pk_uLs, pk_us, pk_un]; exact hz9
                  · rw [fS1, mvf1]; simp (disch := omega) only [es_8, es_7, es_6, es_1, ebefore_1, pk_uLn, pk_uLs, pk_us, pk_un]
                    first
                    | (rw [if_pos (by have := (lt0 _).mp (Int64.not_le.mp h_133); omega)]; rfl)
                    | (have c9 := (le0 _).mp h_133; rw [if_neg (by omega), if_pos (by rcases hb9 with z | z <;> omega)]; rfl)
                  · rw [fS2, mvf2, if_pos hb9]; simp (disch := omega) only [es_8, es_7, es_6, es_1, ebefore_1, pk_uLn, pk_uLs, pk_us, pk_un]; rw [neg_t (by omega), hy9]
                  · rw [fS3, mvf3, if_pos hb9]; simp (disch := omega) only [es_8, es_7, es_6, es_1, ebefore_1, pk_uLn, pk_uLs, pk_us, pk_un]
                    rw [← hw9, ← three (by omega)]
                    unfold r_min
                    first
                    | (rw [if_neg (by have : ((3 * T (235 + k) / 2).toInt ≤ 900) := Int64.le_iff_toInt_le.mp h_198; omega)])
                    | (rw [if_pos (by have : ¬ ((3 * T (235 + k) / 2).toInt ≤ 900) := fun z => h_198 (Int64.le_iff_toInt_le.mpr z); omega)]; rfl)
                  · rw [fS4]; simp (disch := omega) only [es_8, es_7, es_6, es_1, ebefore_1, pk_uLn, pk_uLs, pk_us, pk_un]; exact hx9
                have key := mv_sA (show i < cnt by omega) hn8 hkk hAA hBB hst9 hG9
                have hoth9 : oth s_8 S := fun j hj => by simp (disch := omega) only [es_8, es_7, es_6, es_1, ebefore_1, pk_uLn, pk_uLs, pk_us, pk_un]; exact hot j hj
                have hcn9 : s_8 210 = lN (k + 1 + (cnt - (i + 1))) := by simp (disch := omega) only [es_8, es_7, es_6, es_1, ebefore_1, pk_uLn, pk_uLs, pk_us, pk_un]; rw [hT2]; exact congrArg lN (by omega)
                refine lv_iinc (v := (nI (k + 1))) (lv' := [(1, .int (nI (k + 1))), (3, .long ((3 * (T (235 + k))) / 2)), (2, .int 1), (0, .ref (am 0))]) hx hb d_M_moves_209 hl (k := 3) rfl (nI_1 _) (by decide) rfl (fun ls hl => ?_)
                refine lv_goto (tgt := 2) hx hb d_M_moves_212 (by decide) ?_
                exact ih_2 (k + 1) (i + 1) s_8 before_1 (by omega) (key.1) (hcn9) (key.2.1) (key.2.2) (hoth9) (by omega) _ _ _ hP hD hS (lv_sub hl [3, 0] rfl)
              · refine lv_ldc2 (v := 900) hx hb hown (hts _ (List.mem_cons_of_mem _ x_1123)) d_M_moves_201 ?_
                refine lv_goto (tgt := 208) hx hb d_M_moves_204 (by decide) ?_
                obtain ⟨s_9, es_9⟩ : ∃ g9 : Nat → Int64, g9 = vp_updL s_7 (235 + k) 900 := ⟨_, rfl⟩
                refine q_last (k := 235 + k) 1 (ws1 := [((am 0), .inr (8, [.int th, .ref (am 1), .ref (am 2), .ref (am 3), .ref (am 4), .ref (am 5), .long bu, .long he, .ref (am 6), .ref (am 7)])), ((am 1), .inl (ct 1, 334, .inr (.inl s_9))), ((am 6), .inl (ct 1, 9, .inr (.inl before_1)))]) es_9 hx hb hE hP hD hS rfl rfl (by omega) (by decide) rfl d_M_moves_208 (fun H locs hP hD hS => ?_)
                have hst9 : mv_st (fS S Bf) i := by first | exact Or.inl ((bey_iff hx9 hy9 r1 r2).mp h_72) | exact Or.inr (hz9.symm.trans (eq0.mp h_97))
                have es9 : (T (219 + k) + T (227 + k)).toInt = fS S Bf 1 i + fS S Bf 2 i := by rw [tadd (K := 100000) (by omega) (by omega) (by omega), hx9, hy9]
                have hb9 : mv_bey (fS S Bf) i := Classical.byContradiction fun z => h_72 ((bey_iff hx9 hy9 r1 r2).mpr z)
                have hG9 : ∀ a j, a < 5 → j < 8 → fS s_9 before_1 a j = if j = k then mvf (fS S Bf) i a else fS T B1 a j := by
                  refine mvA ?_ ?_ ?_ ?_ ?_ (fS_hh (S := T) (Bf := B1) (k := k) (fun j hj hk9 => by first | rfl | (simp (disch := omega) only [es_9, es_7, es_6, es_1, ebefore_1, pk_uLn, pk_uLs, pk_us, pk_un])) (fun j hj hk9 => by first | rfl | (simp (disch := omega) only [es_9, es_7, es_6, es_1, ebefore_1, pk_uLn, pk_uLs, pk_us, pk_un])) (fun j hj hk9 => by first | rfl | (simp (disch := omega) only [es_9, es_7, es_6, es_1, ebefore_1, pk_uLn, pk_uLs, pk_us, pk_un])) (fun j hj hk9 => by first | rfl | (simp (disch := omega) only [es_9, es_7, es_6, es_1, ebefore_1, pk_uLn, pk_uLs, pk_us, pk_un])) (fun j hj hk9 => by first | rfl | (simp (disch := omega) only [es_9, es_7, es_6, es_1, ebefore_1, pk_uLn, pk_uLs, pk_us, pk_un])))
                  · rw [fS0]; simp (disch := omega) only [es_9, es_7, es_6, es_1, ebefore_1, pk_uLn, pk_uLs, pk_us, pk_un]; exact hz9
                  · rw [fS1, mvf1]; simp (disch := omega) only [es_9, es_7, es_6, es_1, ebefore_1, pk_uLn, pk_uLs, pk_us, pk_un]
                    first
                    | (rw [if_pos (by have := (lt0 _).mp (Int64.not_le.mp h_133); omega)]; rfl)
                    | (have c9 := (le0 _).mp h_133; rw [if_neg (by omega), if_pos (by rcases hb9 with z | z <;> omega)]; rfl)
                  · rw [fS2, mvf2, if_pos hb9]; simp (disch := omega) only [es_9, es_7, es_6, es_1, ebefore_1, pk_uLn, pk_uLs, pk_us, pk_un]; rw [neg_t (by omega), hy9]
                  · rw [fS3, mvf3, if_pos hb9]; simp (disch := omega) only [es_9, es_7, es_6, es_1, ebefore_1, pk_uLn, pk_uLs, pk_us, pk_un]
                    rw [← hw9, ← three (by omega)]
                    unfold r_min
                    first
                    | (rw [if_neg (by have : ((3 * T (235 + k) / 2).toInt ≤ 900) := Int64.le_iff_toInt_le.mp h_198; omega)])
                    | (rw [if_pos (by have : ¬ ((3 * T (235 + k) / 2).toInt ≤ 900) := fun z => h_198 (Int64.le_iff_toInt_le.mpr z); omega)]; rfl)
                  · rw [fS4]; simp (disch := omega) only [es_9, es_7, es_6, es_1, ebefore_1, pk_uLn, pk_uLs, pk_us, pk_un]; exact hx9
                have key := mv_sA (show i < cnt by omega) hn8 hkk hAA hBB hst9 hG9
                have hoth9 : oth s_9 S := fun j hj => by simp (disch := omega) only [es_9, es_7, es_6, es_1, ebefore_1, pk_uLn, pk_uLs, pk_us, pk_un]; exact hot j hj
                have hcn9 : s_9 210 = lN (k + 1 + (cnt - (i + 1))) := by simp (disch := omega) only [es_9, es_7, es_6, es_1, ebefore_1, pk_uLn, pk_uLs, pk_us, pk_un]; rw [hT2]; exact congrArg lN (by omega)
                refine lv_iinc (v := (nI (k + 1))) (lv' := [(1, .int (nI (k + 1))), (3, .long ((3 * (T (235 + k))) / 2)), (2, .int 1), (0, .ref (am 0))]) hx hb d_M_moves_209 hl (k := 3) rfl (nI_1 _) (by decide) rfl (fun ls hl => ?_)
                refine lv_goto (tgt := 2) hx hb d_M_moves_212 (by decide) ?_
                exact ih_2 (k + 1) (i + 1) s_9 before_1 (by omega) (key.1) (hcn9) (key.2.1) (key.2.2) (hoth9) (by omega) _ _ _ hP hD hS (lv_sub hl [3, 0] rfl)
          · refine lv_aload_n hx hb d_M_moves_100 rfl (lv_at hl 1 rfl) ?_
            refine lv_iload_n hx hb d_M_moves_101 rfl (lv_at hl 2 rfl) ?_
            refine cWV (As := [.int (nI k)]) (rest := []) (q9 := 0) (ci := 8) K_M_removes x_1145 hx hb hml hown hts hE hV hS (c_M_removes l D ct st am th bu he s_1 before_1 (k + (cnt - i)) k (by simp (disch := omega) only [es_1, ebefore_1, pk_uLn, pk_uLs, pk_us, pk_un]; exact hT2) (by omega) (by omega) _) hP hD hA [0, 1, 2] [] (wr := []) rfl rfl (by decide) (by decide) (by decide) rfl hP rfl rfl hl.1 rfl (Nat.le_of_ble_eq_true rfl) d_M_moves_102 (Nat.le_of_ble_eq_true rfl) (Nat.le_of_ble_eq_true rfl) ⟨Nat.le_of_ble_eq_true rfl, Nat.le_of_ble_eq_true rfl⟩ (fun v W1 H locs hpost hP hD hS => ?_)
            obtain ⟨s1_1, before1_1, rfl, rfl, hq_102⟩ := hpost
            have hP : va_P D classes [((am 0), .inr (8, [.int th, .ref (am 1), .ref (am 2), .ref (am 3), .ref (am 4), .ref (am 5), .long bu, .long he, .ref (am 6), .ref (am 7)])), ((am 1), .inl (ct 1, 334, .inr (.inl s1_1))), ((am 6), .inl (ct 1, 9, .inr (.inl before1_1)))] H := hP
            have hD : va_D A [((am 0), .inr (8, [.int th, .ref (am 1), .ref (am 2), .ref (am 3), .ref (am 4), .ref (am 5), .long bu, .long he, .ref (am 6), .ref (am 7)])), ((am 1), .inl (ct 1, 334, .inr (.inl s1_1))), ((am 6), .inl (ct 1, 9, .inr (.inl before1_1)))] := hD
            have hst9 : ¬ mv_st (fS S Bf) i := fun z => z.elim (fun w => h_72 ((bey_iff hx9 hy9 r1 r2).mpr w)) (fun w => h_97 (eq0.mpr (hz9.trans w)))
            have key := mv_sB (show i < cnt by omega) hn8 hkk hAA hBB hst9 (T := fS T B1) (G := fS s_1 before_1) (fS_hh (S := T) (Bf := B1) (k := k) (fun j hj hk9 => by first | rfl | (simp (disch := omega) only [es_1, ebefore_1, pk_uLn, pk_uLs, pk_us, pk_un])) (fun j hj hk9 => by first | rfl | (simp (disch := omega) only [es_1, ebefore_1, pk_uLn, pk_uLs, pk_us, pk_un])) (fun j hj hk9 => by first | rfl | (simp (disch := omega) only [es_1, ebefore_1, pk_uLn, pk_uLs, pk_us, pk_un])) (fun j hj hk9 => by first | rfl | (simp (disch := omega) only [es_1, ebefore_1, pk_uLn, pk_uLs, pk_us, pk_un])) (fun j hj hk9 => by first | rfl | (simp (disch := omega) only [es_1, ebefore_1, pk_uLn, pk_uLs, pk_us, pk_un]))) (fun a j ha hj => hq_102.1 a j ha (by omega))
            have hoth9 : oth s1_1 S := hq_102.2.2.trans (fun j hj => by simp (disch := omega) only [es_1, ebefore_1, pk_uLn, pk_uLs, pk_us, pk_un]; exact hot j hj)
            have hcn9 : s1_1 210 = lN (k + (cnt - (i + 1))) := hq_102.2.1.trans (congrArg lN (by omega))
            refine lv_goto (tgt := 212) hx hb d_M_moves_105 (by decide) ?_
            refine lv_goto (tgt := 2) hx hb d_M_moves_212 (by decide) ?_
            exact ih_2 k (i + 1) s1_1 before1_1 (by omega) (key.1) (hcn9) (key.2.1) (key.2.2) (hoth9) (by omega) _ _ _ hP hD hS (lv_sub hl [1, 2] rfl)
  exact loop_2 _ 0 0 S Bf (Nat.zero_le _) (rfl) (by rw [hcnt]; exact congrArg lN (by omega)) (fun a j ha hj => absurd hj (Nat.not_lt_zero _)) (fun a j ha hj => by rw [Nat.zero_add]) (fun _ _ => rfl) (Nat.lt_succ_self _) _ _ _ hP hD hS (lv_sub hl [1, 0] rfl)
