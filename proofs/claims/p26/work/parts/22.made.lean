section QN
variable {p : Program} {l : Launch} {e : Env} {R : Room} {s : State} {m : MethodId} {args : Array Value} {below : List Frame} {meth : Method} {c : Code} {H : Heap} {locs : List Loc} {cells slots : Nat} {Q : State → Prop}
variable {cc : ByteArray} {pc : Nat} {ls : Array Slot} {rest : List Value} {D : va_G} {A : Nat → Prop} {ct : Nat → ClassId} {ws : va_W} {H0 : Heap}
theorem q_newJ (N : Nat) {n : Int32} (hx : p.tables.exec = Jvm.exec) (hb : c.code = cc) (harr : (Cond.arrayClass .long).before args s = true) (hE : EV D ct s) (hP : va_P D classes ws H) (hD : va_D A ws) (hS : va_S A H0 H locs) (hA : ∀ q : Nat, H0.size ≤ q → A q) (hn : ¬ n < 0) (hN : n.toNatClampNeg = N) (hby : N * componentBytes .long ≤ 536870912) (hcells : cells + 1 ≤ R.cells) (hslots : slots + N ≤ R.slots) (hdg : decode cc pc = .ok (.newarray .long, 2))
    (kk : ∀ (q : Nat) (H1 : Heap), va_P D classes (ws ++ [(q, .inl (ct 1, N, .inr (.inl (fun _ => 0))))]) H1 → va_D A (ws ++ [(q, .inl (ct 1, N, .inr (.inl (fun _ => 0))))]) → va_S A H0 H1 locs → W p l e R s m args below meth c H1 locs (cells + 1) (slots + N) Q (F0 m (pc + 2) ls (.ref q :: rest))) :
    W p l e R s m args below meth c H locs cells slots Q (F0 m pc ls (.int n :: rest)) := by
  refine va_newa hx hb (atype := .long) (ty := .long) harr rfl hE.K hP hD hS hA (a0 := (N, .inr (.inl (fun _ => 0)))) (N' := N) (fun _ => rfl) hn hN hby hcells hslots hdg fun q cA H1 hK1 hP1 hD1 hS1 => ?_
  have e9 : cA = ct 1 := Option.some.inj ((hK1.2 5 (cA, .long) rfl).2.symm.trans (hE.K.2 1 _ rfl).2)
  subst e9
  exact kk q H1 hP1 hD1 hS1
theorem q_newI (N : Nat) {n : Int32} (hx : p.tables.exec = Jvm.exec) (hb : c.code = cc) (harr : (Cond.arrayClass .int).before args s = true) (hE : EV D ct s) (hP : va_P D classes ws H) (hD : va_D A ws) (hS : va_S A H0 H locs) (hA : ∀ q : Nat, H0.size ≤ q → A q) (hn : ¬ n < 0) (hN : n.toNatClampNeg = N) (hby : N * componentBytes .int ≤ 536870912) (hcells : cells + 1 ≤ R.cells) (hslots : slots + N ≤ R.slots) (hdg : decode cc pc = .ok (.newarray .int, 2))
    (kk : ∀ (q : Nat) (H1 : Heap), va_P D classes (ws ++ [(q, .inl (ct 0, N, .inl (fun _ => 0)))]) H1 → va_D A (ws ++ [(q, .inl (ct 0, N, .inl (fun _ => 0)))]) → va_S A H0 H1 locs → W p l e R s m args below meth c H1 locs (cells + 1) (slots + N) Q (F0 m (pc + 2) ls (.ref q :: rest))) :
    W p l e R s m args below meth c H locs cells slots Q (F0 m pc ls (.int n :: rest)) := by
  refine va_newa hx hb (atype := .int) (ty := .int) harr rfl hE.K hP hD hS hA (a0 := (N, .inl (fun _ => 0))) (N' := N) (fun _ => rfl) hn hN hby hcells hslots hdg fun q cA H1 hK1 hP1 hD1 hS1 => ?_
  have e9 : cA = ct 0 := Option.some.inj ((hK1.2 5 (cA, .int) rfl).2.symm.trans (hE.K.2 0 _ rfl).2)
  subst e9
  exact kk q H1 hP1 hD1 hS1
theorem q_oinit {a0 : Cond} {own : String} {idx nL a : Nat} {lv : List (Nat × Value)} (hx : p.tables.exec = Jvm.exec) (hb : c.code = cc) (hml : c.maxLocals = nL) (hown : s.vm.findClass own = some m.cls) (hts : ∀ w ∈ a0 :: wd, w.before args s = true) (hl : lv_has ls nL lv) (hlink : Cond.methodLink own idx Lib.objectInit ∈ wd) (hdg : decode cc pc = .ok (.invokespecial idx, 3)) (h1 : 1 ≤ R.frames) (h2 : (rest.map fun v => v.category).sum + 12 ≤ R.locals)
    (kk : W p l e R s m args below meth c H locs cells slots Q (F0 m (pc + 3) ls rest)) : W p l e R s m args below meth c H locs cells slots Q (F0 m pc ls (.ref a :: rest)) := by
  refine W.objInit hx hb hown (hts _ (List.mem_cons_of_mem _ hlink)) (hts _ (List.mem_cons_of_mem _ x_23)) (hts _ (List.mem_cons_of_mem _ x_24)) rfl (by rw [hml]; exact hl.1) rfl hdg h1 (by simpa [JFrame.monitorRoom, F0] using h2) ?_
  exact W.eq (g2 := F0 m (pc + 3) ls rest) rfl kk
end QN

def z0 : Nat → Int64 := fun _ => 0
