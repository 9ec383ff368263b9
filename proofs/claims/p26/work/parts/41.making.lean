/-! making: objects, rows of rows of longs, rows of States -/
section MQ
variable {E : CtlPost} {ee : Env} {d : Bool} {acts : List Action}
/-- one row of longs -/
theorem mq_row {U : State} {cI cc : ClassId} {kc : Class} {M : Nat} {k2 : Int32} (hkc : U.vm.classes[cI]? = some kc) (hkindc : kc.kind = .array cc .long) (hm : ¬ k2 < 0) (hM : k2.toNatClampNeg = M) (hl : ¬ M > ee.platform.arrayLengthLimit) (hh : ¬ M * componentBytes .long > ee.platform.maxHeapBytes) (h1 : U.heap.size < ee.platform.maxCells) (h2 : U.slotsUsed + M ≤ ee.platform.maxSlots) {Q : Addr → Pre}
    (hq : ∀ acts', Q U.heap.size d acts' (U.pushCell { cls := cI, slots := Array.replicate M (defaultValue .long) })) : wp (Jvm.Op.multianewarray.make cI [k2]) Q E ee d acts U := by
  subst hM
  rw [Jvm.Op.multianewarray.make]
  simp only [wp_bind', W.ite, hm, if_false, wp_pure', W.theClass, hkc, hkindc, Option.some.injEq, exists_eq_left']
  exact W.newArray_of hkc hkindc hl hh h1 h2 rfl hq
/-- the table of N rows, by what holds behind each row -/
theorem mq_all {U : State} {cO cI cc : ClassId} {k kc : Class} {N M : Nat} {n k2 : Int32} (J : Nat → State → Prop) (hk : U.vm.classes[cO]? = some k) (hkind : k.kind = .array cI (.array .long)) (hkc : U.vm.classes[cI]? = some kc) (hkindc : kc.kind = .array cc .long) (hn : ¬ n < 0) (hN : n.toNatClampNeg = N) (hm : ¬ k2 < 0) (hM : k2.toNatClampNeg = M)
    (hl1 : ¬ N > ee.platform.arrayLengthLimit) (hh1 : ¬ N * componentBytes (.array .long) > ee.platform.maxHeapBytes) (hl : ¬ M > ee.platform.arrayLengthLimit) (hh : ¬ M * componentBytes .long > ee.platform.maxHeapBytes) (h1 : U.heap.size < ee.platform.maxCells) (h2 : U.slotsUsed + N ≤ ee.platform.maxSlots) {Q : Addr → Pre}
    (hJ0 : J 0 (U.pushCell { cls := cO, slots := Array.replicate N .null }))
    (hJ : ∀ i V, i < N → J i V → V.vm = U.vm ∧ V.heap.size < ee.platform.maxCells ∧ V.slotsUsed + M ≤ ee.platform.maxSlots ∧ U.heap.size < V.heap.size ∧ ∃ x : Cell, V.heap[U.heap.size]? = some x ∧ x.vm = .none ∧ x.cls = cO ∧ i < x.slots.size ∧ J (i + 1) ((V.pushCell { cls := cI, slots := Array.replicate M (defaultValue .long) }).setCell U.heap.size (x.setSlot i (.ref V.heap.size))))
    (hq : ∀ d' acts' V, J N V → Q U.heap.size d' acts' V) : wp (Jvm.Op.multianewarray.make cO [n, k2]) Q E ee d acts U := by
  subst hN
  have hfind : ([k2].find? (· < 0)) = none := by simp [hm]
  rw [Jvm.Op.multianewarray.make]
  simp only [wp_bind', W.ite, hn, if_false, wp_pure', W.theClass, hk, hkind, Option.some.injEq, exists_eq_left']
  refine W.newArray_of hk hkind hl1 hh1 h1 h2 rfl (fun acts1 => ?_)
  simp only [hfind]
  rw [ite_self, wp_bind', Std.Legacy.Range.forIn_eq_forIn_range']
  have hsz : ([:n.toNatClampNeg] : Std.Legacy.Range).size = n.toNatClampNeg := by simp [Std.Legacy.Range.size]
  rw [hsz]
  refine wp_forIn_inv (fun todo V => ∃ i, i ≤ n.toNatClampNeg ∧ todo = List.range' i (n.toNatClampNeg - i) ∧ J i V) _ _ ⟨0, Nat.zero_le _, rfl, hJ0⟩ ?_ ?_
  · rintro y todo V d' acts' Q' ⟨i, hi, hl9, hJi⟩ hnext
    have hlt : i < n.toNatClampNeg := by
      rcases Nat.lt_or_ge i n.toNatClampNeg with h | h
      · exact h
      · rw [show n.toNatClampNeg - i = 0 from by omega] at hl9; simp at hl9
    rw [show n.toNatClampNeg - i = (n.toNatClampNeg - (i + 1)) + 1 from by omega, List.range'_succ] at hl9
    obtain ⟨rfl, rfl⟩ := List.cons.inj hl9
    obtain ⟨v1, v2, v3, v4, x, v5, v6, v7, v8, v9⟩ := hJ y V hlt hJi
    simp only [wp_bind']
    refine mq_row (by rw [v1]; exact hkc) hkindc hm hM hl hh v2 v3 (fun acts2 => ?_)
    simp only [wp_bind', W.writeLoc, wp_pure']
    refine ⟨x, by rw [State.heap_pushCell_of_lt (h := v4)]; exact v5, by rw [v6]; simp, v8, ?_, hnext _ _ _ ⟨y + 1, hlt, rfl, v9⟩⟩
    rw [v6, v7]
    simp [State.fitsSlot, State.slotType?, v1, hk, hkind]
    rfl
  · rintro V d' acts' ⟨i, hi, hl9, hJi⟩
    have hiN : i = n.toNatClampNeg := by
      rcases Nat.lt_or_ge i n.toNatClampNeg with h | h
      · rw [show n.toNatClampNeg - i = (n.toNatClampNeg - (i + 1)) + 1 from by omega, List.range'_succ] at hl9; cases hl9
      · omega
    subst hiN
    simp only [wp_pure']
    exact hq _ _ V hJi
end MQ
section MR
variable {p : Program} {l : Launch} {e : Env} {R : Room} {s : State} {m : MethodId} {args : Array Value} {below : List Frame} {meth : Method} {c : Code} {H : Heap} {locs : List Loc} {cells slots : Nat} {Q : State → Prop}
variable {cc : ByteArray} {pc : Nat} {ls : Array Slot} {rest : List Value} {D : va_G} {A : Nat → Prop} {ct : Nat → ClassId} {ws : va_W} {H0 : Heap}
/-- what holds behind i rows: the machine may stand there, the table and i rows lie above T, nothing below has moved -/
def MJ (p : Program) (l : Launch) (e : Env) (R : Room) (s : State) (m : MethodId) (args : Array Value) (below : List Frame) (meth : Method) (c : Code) (T : State) (vm1 : Vm) (locs : List Loc) (cells slots : Nat) (cO cI : ClassId) (N M i : Nat) (U : State) : Prop :=
  (∃ L : List Loc, (∀ z ∈ L, z.base = T.heap.size) ∧ Stand p l e R s m args below meth c U (locs ++ L) (cells + 1 + i) (slots + N + i * M)) ∧ U.vm = vm1 ∧ U.heap.size = T.heap.size + 1 + i ∧ U.slotsUsed = T.slotsUsed + N + i * M ∧
  U.heap[T.heap.size]? = some (arrV cO N (fun j => if j < i then .ref (T.heap.size + 1 + j) else .null)) ∧ (∀ j, j < i → U.heap[T.heap.size + 1 + j]? = some (arrV cI M (fun _ => .long 0))) ∧ ∀ q : Nat, q < T.heap.size → U.heap[q]? = T.heap[q]?
theorem MJ.next {T U : State} {vm1 : Vm} {cO cI : ClassId} {N M i : Nat} (hi : i < N) (h : MJ p l e R s m args below meth c T vm1 locs cells slots cO cI N M i U) : MJ p l e R s m args below meth c T vm1 locs cells slots cO cI N M (i + 1) ((U.pushCell { cls := cI, slots := Array.replicate M (defaultValue .long) }).setCell T.heap.size ((arrV cO N (fun j => if j < i then .ref (T.heap.size + 1 + j) else .null)).setSlot i (.ref U.heap.size))) := by
  obtain ⟨⟨L, hL, X⟩, h1, h2, h3, h4, h5, h6⟩ := h
  have hlt : T.heap.size < U.heap.size := by omega
  have hc1 : (U.pushCell { cls := cI, slots := Array.replicate M (defaultValue .long) }).heap[T.heap.size]? = some (arrV cO N (fun j => if j < i then .ref (T.heap.size + 1 + j) else .null)) := by rw [State.heap_pushCell_of_lt (h := hlt)]; exact h4
  have X1 := (X.pushed { cls := cI, slots := Array.replicate M (defaultValue .long) }).stored hc1 i (.ref U.heap.size)
  rw [show ({ cls := cI, slots := Array.replicate M (defaultValue .long) } : Cell).slots.size = M by simp] at X1
  have e2 : slots + N + (i + 1) * M = slots + N + i * M + M := by rw [Nat.succ_mul]; omega
  refine ⟨⟨L ++ [⟨T.heap.size, i⟩], fun z hz => ?_, ?_⟩, h1, ?_, ?_, ?_, fun j hj => ?_, fun q hq => ?_⟩
  · rcases List.mem_append.mp hz with w | w
    · exact hL z w
    · rw [List.mem_singleton.mp w]
  · rw [e2, ← List.append_assoc]
    exact X1
  · simp [State.setCell, h2]; omega
  · simp [h3, Nat.succ_mul]; omega
  · rw [State.heap_setCell_self hc1, arrV_store]
    congr 1
    unfold arrV updV
    congr 2
    funext j
    show (if j.val = i then Value.ref U.heap.size else (if j.val < i then Value.ref (T.heap.size + 1 + j.val) else Value.null)) = (if j.val < i + 1 then Value.ref (T.heap.size + 1 + j.val) else Value.null)
    by_cases q : j.val = i
    · rw [if_pos q, if_pos (by omega), h2, q]
    · rw [if_neg q]
      by_cases w : j.val < i
      · rw [if_pos w, if_pos (by omega)]
      · rw [if_neg w, if_neg (by omega)]
  · rw [State.heap_setCell_other (show T.heap.size ≠ T.heap.size + 1 + j by omega)]
    rcases Nat.lt_succ_iff_lt_or_eq.mp hj with w | rfl
    · exact (State.heap_pushCell_of_lt _ _ (show T.heap.size + 1 + j < U.heap.size by omega)).trans (h5 j w)
    · rw [← h2, ← arrV_new]
      exact State.heap_pushCell_size _ _
  · rw [State.heap_setCell_other (show T.heap.size ≠ q by omega)]
    exact (State.heap_pushCell_of_lt _ _ (show q < U.heap.size by omega)).trans (h6 q hq)
/-- the state behind i rows -/
def mq_at (U : State) (cO cI : ClassId) (N M : Nat) : Nat → State
  | 0 => U.pushCell { cls := cO, slots := Array.replicate N .null }
  | i + 1 => ((mq_at U cO cI N M i).pushCell { cls := cI, slots := Array.replicate M (defaultValue .long) }).setCell U.heap.size ((arrV cO N (fun j => if j < i then .ref (U.heap.size + 1 + j) else .null)).setSlot i (.ref (mq_at U cO cI N M i).heap.size))
theorem mq_at_top (U : State) (f : JFrame) (cO cI : ClassId) (N M : Nat) : ∀ i, mq_at (U.setTop f) cO cI N M i = (mq_at U cO cI N M i).setTop f
  | 0 => rfl
  | i + 1 => by simp only [mq_at, mq_at_top U f cO cI N M i, State.heap_setTop, State.pushCell_setTop, State.setCell_setTop]
theorem q_mna {own : String} {index : Nat} {n k2 : Int32} (N M : Nat) (f : Nat → Nat → Option Nat) (hf : ∀ q j, j < N → f q j = some (q + 1 + j)) (hx : p.tables.exec = Jvm.exec) (hb : c.code = cc) (hown : s.vm.findClass own = some m.cls) (hcl : (Cond.classLink own index "[[J").before args s = true) (hE : EV D ct s) (hP : va_P D classes ws H) (hD : va_D A ws) (hS : va_S A H0 H locs) (hA : ∀ q : Nat, H0.size ≤ q → A q)
    (hn : ¬ n < 0) (hN : n.toNatClampNeg = N) (hm : ¬ k2 < 0) (hM : k2.toNatClampNeg = M) (hN9 : N ≤ 8) (hM9 : M ≤ 64) (hcells : cells + (1 + N) ≤ R.cells) (hslots : slots + (N + N * M) ≤ R.slots) (hdg : decode cc pc = .ok (.multianewarray index 2, 4))
    (kk : ∀ (q : Nat) (H1 : Heap) (locs1 : List Loc), va_P D classes (ws ++ (q, .inl (ct 4, N, .inr (.inr (.inr (.inr (f q)))))) :: (List.range N).map (fun j => (q + 1 + j, .inl (ct 1, M, .inr (.inl (fun _ => 0)))))) H1 → va_D A (ws ++ (q, .inl (ct 4, N, .inr (.inr (.inr (.inr (f q)))))) :: (List.range N).map (fun j => (q + 1 + j, .inl (ct 1, M, .inr (.inl (fun _ => 0)))))) → va_S A H0 H1 locs1 →
      W p l e R s m args below meth c H1 locs1 (cells + 1 + N) (slots + N + N * M) Q (F0 m (pc + 4) ls (.ref q :: rest))) : W p l e R s m args below meth c H locs cells slots Q (F0 m pc ls (.int k2 :: .int n :: rest)) := by
  intro T hT X
  have hpl : e.platform.magicAccessors = ({} : Platform).magicAccessors := by rw [X.admits.platform]
  obtain ⟨c0, hfc0, hclk⟩ := Cond.classLink_spec hown hcl e.platform hpl
  have hfc : s.vm.findClass "[[J" = some (ct 4) := (hE.K.2 4 _ rfl).2
  cases hfc.symm.trans hfc0
  obtain ⟨hg₁, hwarm₁, hready₁⟩ := State.classEntry (e := e) X.warmed hclk
  generalize T.vm.noted m.cls index (.cls (ct 4)) = vm₁ at hg₁ hwarm₁ hready₁
  have hal : s.vm.Alike vm₁ := hwarm₁.alike
  obtain ⟨kA, hkA, hkindA⟩ := hE.2.2.2.2.1
  obtain ⟨-, kC, hkC, cC, hkindC⟩ := (hE.K.2 1 _ rfl).1 0 (fun _ => .long 0)
  obtain ⟨kA₁, hkA₁, heA⟩ := hal.2.2 _ _ hkA
  obtain ⟨kC₁, hkC₁, heC⟩ := hal.2.2 _ _ hkC
  have hkindA₁ : kA₁.kind = .array (ct 1) (.array .long) := by rw [heA]; exact hkindA
  have hkindC₁ : kC₁.kind = .array cC .long := by rw [heC]; exact hkindC
  have X₁ := X.noted hwarm₁
  obtain ⟨hr1, hr2⟩ := X.roomAbove hcells hslots
  have hJ0 : MJ p l e R s m args below meth c T vm₁ locs cells slots (ct 4) (ct 1) N M 0 ((T.setVm vm₁).pushCell { cls := ct 4, slots := Array.replicate N .null }) := by
    have h := X₁.pushed ({ cls := ct 4, slots := Array.replicate N .null } : Cell)
    rw [show ({ cls := ct 4, slots := Array.replicate N .null } : Cell).slots.size = N by simp] at h
    refine ⟨⟨[], fun z hz => absurd hz List.not_mem_nil, ?_⟩, rfl, ?_, ?_, ?_, fun j hj => absurd hj (Nat.not_lt_zero _), fun q hq => ?_⟩
    · rw [List.append_nil, Nat.zero_mul]; exact h
    · simp
    · simp
    · rw [show (fun j : Nat => if j < 0 then Value.ref (T.heap.size + 1 + j) else .null) = fun _ => .null from funext fun j => if_neg (Nat.not_lt_zero j), ← arrV_new]
      exact State.heap_pushCell_size _ _
    · exact State.heap_pushCell_of_lt _ _ hq
  have key : ∀ U : State, MJ p l e R s m args below meth c T vm₁ locs cells slots (ct 4) (ct 1) N M N U → ∃ t, Steps p.tables e below (U.setTop (F0 m (pc + 4) ls (.ref T.heap.size :: rest))) t ∧ Q t := by
    intro U hU
    obtain ⟨⟨L, hL, XU⟩, -, h2, -, h4, h5, h6⟩ := hU
    rw [hT] at h2 h4 h5 h6 hL
    have hTab : arrV (ct 4) N (fun j => if j < N then .ref (H.size + 1 + j) else .null) = vp_cell (ct 4) (N, .inr (.inr (.inr (.inr (f H.size))))) := by
      show _ = arrV (ct 4) N (fun j => va_rf (f H.size j))
      unfold arrV
      congr 2
      funext j
      show (if j.val < N then Value.ref (H.size + 1 + j.val) else Value.null) = va_rf (f H.size j.val)
      rw [if_pos j.isLt, hf _ _ j.isLt]
      rfl
    have hnew : ∀ (k9 : Nat) (y : Nat × va_E), ((H.size, .inl (ct 4, N, .inr (.inr (.inr (.inr (f H.size)))))) :: (List.range N).map (fun j => ((H.size + 1 + j, .inl (ct 1, M, .inr (.inl (fun _ => 0)))) : Nat × va_E)))[k9]? = some y → y.1 = H.size + k9 ∧ va_at D classes y U.heap := by
      intro k9 y hy
      cases k9 with
      | zero =>
        cases hy
        exact ⟨rfl, by show U.heap[H.size]? = some _; rw [← hTab]; exact h4⟩
      | succ k9 =>
        rw [List.getElem?_cons_succ, List.getElem?_map] at hy
        obtain ⟨j, hj, rfl⟩ := Option.map_eq_some_iff.mp hy
        have hj1 := List.getElem?_eq_some_iff.mp hj
        obtain ⟨hj2, hj3⟩ := hj1
        rw [List.getElem_range] at hj3
        rw [List.length_range] at hj2
        subst hj3
        exact ⟨by show H.size + 1 + k9 = _; omega, h5 k9 hj2⟩
    have hold : ∀ (k9 : Nat) (y : Nat × va_E), ws[k9]? = some y → U.heap[y.1]? = H[y.1]? := fun k9 y hy => h6 y.1 (hP k9 y hy).lt
    have hP2 : va_P D classes (ws ++ (H.size, .inl (ct 4, N, .inr (.inr (.inr (.inr (f H.size)))))) :: (List.range N).map (fun j => (H.size + 1 + j, .inl (ct 1, M, .inr (.inl (fun _ => 0)))))) U.heap := (hP.kept hold).app (fun k9 y hy => (hnew k9 y hy).2)
    have hD2 : va_D A (ws ++ (H.size, .inl (ct 4, N, .inr (.inr (.inr (.inr (f H.size)))))) :: (List.range N).map (fun j => (H.size + 1 + j, .inl (ct 1, M, .inr (.inl (fun _ => 0)))))) := by
      refine ⟨fun i j a9 b9 ha hb9 hab => ?_, fun k9 y hy => ?_⟩
      · by_cases hi : i < ws.length <;> by_cases hj : j < ws.length
        · rw [List.getElem?_append_left hi] at ha
          rw [List.getElem?_append_left hj] at hb9
          exact hD.1 i j a9 b9 ha hb9 hab
        · rw [List.getElem?_append_left hi] at ha
          rw [List.getElem?_append_right (by omega)] at hb9
          have z1 := (hP i a9 ha).lt
          have z2 := (hnew _ _ hb9).1
          omega
        · rw [List.getElem?_append_right (by omega)] at ha
          rw [List.getElem?_append_left hj] at hb9
          have z1 := (hP j b9 hb9).lt
          have z2 := (hnew _ _ ha).1
          omega
        · rw [List.getElem?_append_right (by omega)] at ha hb9
          have z1 := (hnew _ _ ha).1
          have z2 := (hnew _ _ hb9).1
          omega
      · by_cases hk9 : k9 < ws.length
        · rw [List.getElem?_append_left hk9] at hy
          exact hD.2 k9 y hy
        · rw [List.getElem?_append_right (by omega)] at hy
          have z := (hnew _ _ hy).1
          exact hA _ (by have := hS.1; omega)
    have hS2 : va_S A H0 U.heap (locs ++ L) := by
      refine ⟨by have := hS.1; omega, fun q h1 h3 => (h6 q (Nat.lt_of_lt_of_le h1 hS.1)).trans (hS.2.1 q h1 h3), fun z hz => ?_⟩
      rcases List.mem_append.mp hz with w | w
      · exact hS.2.2 z w
      · rw [hL z w]; exact hA _ hS.1
    rw [hT]
    exact kk H.size U.heap (locs ++ L) hP2 hD2 hS2 U rfl XU
  have hl1 : ¬ N > e.platform.arrayLengthLimit := by rw [Launch.admits_arrayLengthLimit X.admits]; omega
  have hh1 : ¬ N * componentBytes (.array .long) > e.platform.maxHeapBytes := by rw [Launch.admits_maxHeapBytes X.admits]; show ¬ N * 4 > 536870912; omega
  have hl2 : ¬ M > e.platform.arrayLengthLimit := by rw [Launch.admits_arrayLengthLimit X.admits]; omega
  have hh2 : ¬ M * componentBytes .long > e.platform.maxHeapBytes := by rw [Launch.admits_maxHeapBytes X.admits]; show ¬ M * 8 > 536870912; omega
  have hMJN : MJ p l e R s m args below meth c T vm₁ locs cells slots (ct 4) (ct 1) N M N (mq_at (T.setVm vm₁) (ct 4) (ct 1) N M N) := by
    have : ∀ i, i ≤ N → MJ p l e R s m args below meth c T vm₁ locs cells slots (ct 4) (ct 1) N M i (mq_at (T.setVm vm₁) (ct 4) (ct 1) N M i) := by
      intro i
      induction i with
      | zero => intro _; exact hJ0
      | succ i ih => intro hi; exact (ih (by omega)).next (by omega)
    exact this N (Nat.le_refl _)
  obtain ⟨t9, st9, hQ9⟩ := key _ hMJN
  refine ⟨t9, ?_, hQ9⟩
  subst hb
  jvm_step X.here [hx, hdg]
  simp only [Jvm.Op.multianewarray.sem, wp_bind', W.resolveClassAt_links (State.method?_setTop (F0 m pc ls (.int k2 :: .int n :: rest)) X.here.top) hg₁]
  rw [W.popN, if_neg (by decide)]
  refine ⟨F0 m pc ls (.int k2 :: .int n :: rest), State.topJava?_setTop' (s := T.setVm vm₁) _ X.here.top, [.int n, .int k2], rest, rfl, rfl, ?_⟩
  simp only [List.mapM_cons, List.mapM_nil, wp_bind', wp_pure']
  have eS : ((T.setTop (F0 m pc ls (.int k2 :: .int n :: rest))).setVm vm₁).setTop (F0 m pc ls rest) = (T.setVm vm₁).setTop (F0 m pc ls rest) := by
    show ((T.setVm vm₁).setTop _).setTop _ = _
    rw [State.setTop_setTop]
  rw [show ({ F0 m pc ls (.int k2 :: .int n :: rest) with stack := rest } : JFrame) = F0 m pc ls rest from rfl, eS]
  have hNM : ∀ i, i < N → i * M + M ≤ N * M := fun i hi => by
    have := Nat.mul_le_mul_right M (show i + 1 ≤ N from hi)
    rw [Nat.succ_mul] at this
    exact this
  have hMJ : ∀ i, i ≤ N → MJ p l e R s m args below meth c T vm₁ locs cells slots (ct 4) (ct 1) N M i (mq_at (T.setVm vm₁) (ct 4) (ct 1) N M i) := by
    intro i
    induction i with
    | zero => intro _; exact hJ0
    | succ i ih => intro hi; exact (ih (by omega)).next (by omega)
  refine mq_all (fun i V => V = (mq_at (T.setVm vm₁) (ct 4) (ct 1) N M i).setTop (F0 m pc ls rest)) hkA₁ hkindA₁ hkC₁ hkindC₁ hn hN hm hM hl1 hh1 hl2 hh2 (by show T.heap.size < _; omega) (by show T.slotsUsed + N ≤ _; omega) rfl ?_ ?_
  · rintro i V hi rfl
    obtain ⟨-, h1, h2, h3, h4, -, -⟩ := hMJ i (by omega)
    refine ⟨h1, by show (mq_at (T.setVm vm₁) (ct 4) (ct 1) N M i).heap.size < _; omega, by show (mq_at (T.setVm vm₁) (ct 4) (ct 1) N M i).slotsUsed + M ≤ _; have := hNM i hi; omega, by show T.heap.size < (mq_at (T.setVm vm₁) (ct 4) (ct 1) N M i).heap.size; omega, _, h4, rfl, rfl, by rw [arrV_size]; exact hi, rfl⟩
  · rintro d' acts' V rfl
    obtain ⟨⟨L, hL, XU⟩, -⟩ := hMJ N (Nat.le_refl _)
    simp only [wp_bind', W.mark, W.pushRef, State.topJava?_setTop' _ XU.here.top, Option.some.injEq, exists_eq_left', State.setTop_setTop, State.heap_setTop]
    intro acts
    simp [jvm, XU.here.top]
    exact st9
/-- new C() -/
theorem q_new {own C : String} {T : u_T} {N ci index : Nat} {a0 : Cond} (ty : Nat → FieldType) (fs : List Value) (hx : p.tables.exec = Jvm.exec) (hb : c.code = cc) (hts : ∀ w ∈ a0 :: wd, w.before args s = true) (hin : ∀ w ∈ u_ws C T N, w ∈ wd) (hty : ∀ k, k < N → parseFieldDescriptor (T k).2.2.1 = some (ty k)) (hown : s.vm.findClass own = some m.cls) (hcl : Cond.classLink own index C ∈ wd) (hinst : Cond.instantiable C N ∈ wd) (hini : Cond.initialized C ∈ wd)
    (hE : EV D ct s) (hP : va_P D classes ws H) (hD : va_D A ws) (hS : va_S A H0 H locs) (hA : ∀ q : Nat, H0.size ≤ q → A q) (hc : classes[ci]? = some (C, T, N)) (hfs : ∀ j, j < N → defaultValue (ty j) = vp_V fs j) (hcells : cells + 1 ≤ R.cells) (hslots : slots + N ≤ R.slots) (hdg : decode cc pc = .ok (.new index, 3))
    (kk : ∀ (q : Nat) (H1 : Heap), va_P D classes (ws ++ [(q, .inr (ci, fs))]) H1 → va_D A (ws ++ [(q, .inr (ci, fs))]) → va_S A H0 H1 locs → W p l e R s m args below meth c H1 locs (cells + 1) (slots + N) Q (F0 m (pc + 3) ls (.ref q :: rest))) : W p l e R s m args below meth c H locs cells slots Q (F0 m pc ls rest) :=
  va_new hx hb (Ts := a0 :: wd) hts (fun w h => List.mem_cons_of_mem _ (hin w h)) ty hty hown (hts _ (List.mem_cons_of_mem _ hcl)) (hts _ (List.mem_cons_of_mem _ hinst)) (hts _ (List.mem_cons_of_mem _ hini)) hE.K hP hD hS hA hc hfs hcells hslots hdg kk
/-- new State[N] -/
theorem q_newS {own : String} {index N : Nat} {n : Int32} (hx : p.tables.exec = Jvm.exec) (hb : c.code = cc) (hown : s.vm.findClass own = some m.cls) (hcl : (Cond.classLink own index "ShockTube$State").before args s = true) (hE : EV D ct s) (hP : va_P D classes ws H) (hD : va_D A ws) (hS : va_S A H0 H locs) (hA : ∀ q : Nat, H0.size ≤ q → A q) (hn : ¬ n < 0) (hN : n.toNatClampNeg = N) (hby : N * 4 ≤ 536870912) (hcells : cells + 1 ≤ R.cells) (hslots : slots + N ≤ R.slots) (hdg : decode cc pc = .ok (.anewarray index, 3))
    (kk : ∀ (q : Nat) (H1 : Heap), va_P D classes (ws ++ [(q, .inl (ct 3, N, .inr (.inr (.inr (.inr (fun _ => none))))))]) H1 → va_D A (ws ++ [(q, .inl (ct 3, N, .inr (.inr (.inr (.inr (fun _ => none))))))]) → va_S A H0 H1 locs → W p l e R s m args below meth c H1 locs (cells + 1) (slots + N) Q (F0 m (pc + 3) ls (.ref q :: rest))) : W p l e R s m args below meth c H locs cells slots Q (F0 m pc ls (.int n :: rest)) := by
  refine va_newq hx hb hown hcl hE.2.2.2.1 hE.K hP hD hS hA hn hN hby hcells hslots hdg fun q cA H1 hK1 hP1 hD1 hS1 => ?_
  have e9 : cA = ct 3 := by
    obtain ⟨k1, c1, z1, z2, z3, z4⟩ := (hK1.2 5 (cA, .object "ShockTube$State") rfl).2
    obtain ⟨k2, c2, y1, y2, y3, y4⟩ := (hE.K.2 3 _ rfl).2
    exact Option.some.inj (z4.symm.trans y4)
  subst e9
  exact kk q H1 hP1 hD1 hS1
end MR

