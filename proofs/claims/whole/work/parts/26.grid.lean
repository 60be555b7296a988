/-! ALLOCATION, 1: new T[n][k], a row of our own (the rounds stand over a library without one): the states that it goes through, cell by cell. -/
def gf (h i : Nat) : Nat → Value := fun j => if j < i then .ref (h + 1 + j) else .null
theorem gf_up (h i : Nat) : updV (gf h i) i (.ref (h + 1 + i)) = gf h (i + 1) := by
  funext j
  unfold updV gf
  by_cases e : j = i
  · subst e; simp
  · by_cases q : j < i
    · simp [e, q, Nat.lt_succ_of_lt q]
    · simp [e, q, show ¬ j < i + 1 by omega]
theorem hp_lt (U : State) (cell : Cell) {q n : Nat} (h1 : U.heap.size = n) (hq : q < n) : (U.pushCell cell).heap[q]? = U.heap[q]? := State.heap_pushCell_of_lt _ _ (by rw [h1]; exact hq)
def gd (T : State) (cA cy : ClassId) (N K : Nat) (dv : Value) : Nat → State
  | 0 => T.pushCell (arrV cA N (gf T.heap.size 0))
  | i + 1 => ((gd T cA cy N K dv i).pushCell (arrV cy K (fun _ => dv))).setCell T.heap.size ((arrV cA N (gf T.heap.size i)).setSlot i (.ref (T.heap.size + 1 + i)))
def gdF (T : State) (cA cy : ClassId) (N K : Nat) (dv : Value) (i : Nat) (U : State) : Prop :=
  U.heap.size = T.heap.size + 1 + i ∧ U.heap[T.heap.size]? = some (arrV cA N (gf T.heap.size i)) ∧ (∀ j, j < i → U.heap[T.heap.size + 1 + j]? = some (arrV cy K (fun _ => dv))) ∧ (∀ q, q < T.heap.size → U.heap[q]? = T.heap[q]?) ∧ U.vm = T.vm ∧ U.slotsUsed = T.slotsUsed + N + i * K
theorem gd_F (T : State) (cA cy : ClassId) (N K : Nat) (dv : Value) (i : Nat) : gdF T cA cy N K dv i (gd T cA cy N K dv i) := by
  induction i with
  | zero =>
    refine ⟨by simp [gd], by simp [gd], fun j h => absurd h (Nat.not_lt_zero _), fun q h => State.heap_pushCell_of_lt _ _ h, rfl, ?_⟩
    simp [gd, arrV_size]
  | succ i ih =>
    obtain ⟨a, b, c1, o, v, u⟩ := ih
    have hlt : T.heap.size < (gd T cA cy N K dv i).heap.size := by omega
    have hb : ((gd T cA cy N K dv i).pushCell (arrV cy K (fun _ => dv))).heap[T.heap.size]? = some (arrV cA N (gf T.heap.size i)) := by rw [hp_lt _ _ a (by omega)]; exact b
    have hset : ∀ q, q ≠ T.heap.size → (gd T cA cy N K dv (i + 1)).heap[q]? = ((gd T cA cy N K dv i).pushCell (arrV cy K (fun _ => dv))).heap[q]? := fun q hq => State.heap_setCell_other (Ne.symm hq)
    refine ⟨?_, ?_, fun j hj => ?_, fun q hq => ?_, by simp [gd, v], ?_⟩
    · simp [gd, State.setCell, a]; omega
    · rw [← gf_up, ← arrV_store]
      exact State.heap_setCell_self hb
    · rw [hset _ (by omega)]
      rcases Nat.lt_or_ge j i with q | q
      · rw [hp_lt _ _ a (by omega)]
        exact c1 j q
      · rw [show T.heap.size + 1 + j = (gd T cA cy N K dv i).heap.size by rw [a]; omega]
        exact State.heap_pushCell_size _ _
    · rw [hset _ (by omega), hp_lt _ _ a (by omega)]
      exact o q hq
    · simp [gd, u, arrV_size, Nat.succ_mul]; omega
theorem gd_top (T : State) (f : JFrame) (cA cy : ClassId) (N K : Nat) (dv : Value) (i : Nat) : gd (T.setTop f) cA cy N K dv i = (gd T cA cy N K dv i).setTop f := by
  induction i with
  | zero => rfl
  | succ i ih => simp only [gd, ih, State.heap_setTop, State.pushCell_setTop, State.setCell_setTop]
section GRID
variable {p : Program} {l : Launch} {e : Env} {R : Room} {s : State} {m : MethodId} {args : Array Value} {below : List Frame} {meth : Method} {c : Code} {T : State} {locs : List Loc} {cells slots : Nat}
theorem gd_stand (X : Stand p l e R s m args below meth c T locs cells slots) (cA cy : ClassId) (N K : Nat) (dv : Value) (i : Nat) : Stand p l e R s m args below meth c (gd T cA cy N K dv i) locs (cells + 1 + i) (slots + N + i * K) := by
  induction i with
  | zero =>
    have h := X.pushed (arrV cA N (gf T.heap.size 0))
    rw [arrV_size] at h
    simpa [gd] using h
  | succ i ih =>
    obtain ⟨a, b, -, -, -, -⟩ := gd_F T cA cy N K dv i
    have hb : ((gd T cA cy N K dv i).pushCell (arrV cy K (fun _ => dv))).heap[T.heap.size]? = some (arrV cA N (gf T.heap.size i)) := by rw [hp_lt _ _ a (by omega)]; exact b
    have h := (ih.pushed (arrV cy K (fun _ => dv))).stored hb i (.ref (T.heap.size + 1 + i))
    rw [arrV_size] at h
    rw [show cells + 1 + (i + 1) = cells + 1 + i + 1 by omega, show slots + N + (i + 1) * K = slots + N + i * K + K by rw [Nat.succ_mul]; omega]
    refine Stand.dropFresh (J := [⟨T.heap.size, i⟩]) h (fun x hx => ?_)
    rw [List.mem_singleton.mp hx]
    exact X.heapGrown
end GRID
section MAKE
variable {E : CtlPost} {e : Env} {d : Bool} {acts : List Action} {s : State}
theorem gd_make {cA cy cz : ClassId} {kA kC : Class} {ty : FieldType} {n k : Int32} {N K : Nat} (hA : s.vm.classes[cA]? = some kA) (hA2 : kA.kind = .array cy (.array ty)) (hC : s.vm.classes[cy]? = some kC) (hC2 : kC.kind = .array cz ty) (hn : ¬ n < 0) (hk : ¬ k < 0) (hN : n.toNatClampNeg = N) (hK : k.toNatClampNeg = K)
    (hl1 : ¬ N > e.platform.arrayLengthLimit) (hh1 : ¬ N * componentBytes (.array ty) > e.platform.maxHeapBytes) (hl2 : ¬ K > e.platform.arrayLengthLimit) (hh2 : ¬ K * componentBytes ty > e.platform.maxHeapBytes) (hdf : fits ty (defaultValue ty) = true)
    (hc : s.heap.size + (1 + N) ≤ e.platform.maxCells) (hs : s.slotsUsed + (N + N * K) ≤ e.platform.maxSlots) {Q : Addr → Pre} (hq : ∀ d' acts', Q s.heap.size d' acts' (gd s cA cy N K (defaultValue ty) N)) : wp (Jvm.Op.multianewarray.make cA [n, k]) Q E e d acts s := by
  subst hN
  subst hK
  rw [Jvm.Op.multianewarray.make]
  simp only [wp_bind', W.ite, hn, if_false, wp_pure', W.theClass, hA, hA2, Option.some.injEq, exists_eq_left']
  refine W.newArray_of hA hA2 hl1 hh1 (by omega) (by have := Nat.zero_le (n.toNatClampNeg * k.toNatClampNeg); omega) rfl (fun acts1 => ?_)
  have hf : ([k].find? (· < 0)) = none := by simp [hk]
  simp only [hf]
  rw [ite_self, wp_bind', Std.Legacy.Range.forIn_eq_forIn_range', show ([:n.toNatClampNeg] : Std.Legacy.Range).size = n.toNatClampNeg by simp [Std.Legacy.Range.size]]
  refine wp_forIn_inv (fun rest U => ∃ i, i ≤ n.toNatClampNeg ∧ rest = List.range' i (n.toNatClampNeg - i) ∧ U = gd s cA cy n.toNatClampNeg k.toNatClampNeg (defaultValue ty) i) _ _ ⟨0, Nat.zero_le _, rfl, ?_⟩ ?_ ?_
  · show s.pushCell _ = s.pushCell _
    rw [arrV_new]
    rfl
  · rintro x rest U d1 acts2 Q1 ⟨i, hi, hr, rfl⟩ next
    have hlt : i < n.toNatClampNeg := by
      rcases Nat.lt_or_ge i n.toNatClampNeg with q | q
      · exact q
      · rw [show n.toNatClampNeg - i = 0 by omega] at hr; cases hr
    rw [show n.toNatClampNeg - i = (n.toNatClampNeg - (i + 1)) + 1 by omega, List.range'_succ] at hr
    obtain ⟨rfl, hr⟩ := List.cons.inj hr
    obtain ⟨f1, f2, -, -, f5, f6⟩ := gd_F s cA cy n.toNatClampNeg k.toNatClampNeg (defaultValue ty) x
    have hm := Nat.mul_le_mul_right k.toNatClampNeg (show x + 1 ≤ n.toNatClampNeg from hlt)
    rw [Nat.succ_mul] at hm
    simp only [wp_bind']
    rw [Jvm.Op.multianewarray.make]
    simp only [wp_bind', W.ite, hk, if_false, wp_pure', W.theClass, f5, hC, hC2, Option.some.injEq, exists_eq_left']
    refine W.newArray_of (by rw [f5]; exact hC) hC2 hl2 hh2 (by rw [f1]; omega) (by rw [f6]; omega) hdf (fun acts3 => ?_)
    simp only [wp_bind', W.writeLoc, wp_pure']
    rw [show ({ cls := cy, slots := Array.replicate k.toNatClampNeg (defaultValue ty) } : Cell) = arrV cy k.toNatClampNeg (fun _ => defaultValue ty) from arrV_new _ _ _]
    refine ⟨arrV cA n.toNatClampNeg (gf s.heap.size x), by rw [hp_lt _ _ f1 (by omega)]; exact f2, (by show Jvm.VmData.none ≠ _; simp), by rw [arrV_size]; exact hlt, ?_, next _ _ _ ⟨x + 1, hlt, hr, ?_⟩⟩
    · show State.fitsSlot _ cA .none x _ = true
      simp [State.fitsSlot, State.slotType?, f5, hA, hA2]
      rfl
    · rw [f1]; rfl
  · rintro U d1 acts2 ⟨i, hi, hr, rfl⟩
    have hiN : i = n.toNatClampNeg := by
      rcases Nat.lt_or_ge i n.toNatClampNeg with q | q
      · rw [show n.toNatClampNeg - i = (n.toNatClampNeg - (i + 1)) + 1 by omega, List.range'_succ] at hr; cases hr
      · omega
    subst hiN
    simp only [wp_pure']
    exact hq _ _
end MAKE
section WGRID
variable {p : Program} {l : Launch} {e : Env} {R : Room} {s : State} {m : MethodId} {args : Array Value} {below : List Frame} {meth : Method} {c : Code} {H : Heap} {locs : List Loc} {cells slots : Nat} {Q : State → Prop}
theorem w_grid {cc : ByteArray} {pc : Nat} {ls : Array Slot} {rest : List Value} (hexec : p.tables.exec = Jvm.exec) (hb : c.code = cc) {own nm : String} {index : Nat} {cA cy cz : ClassId} {kA kC : Class} {ty : FieldType} (hown : s.vm.findClass own = some m.cls) (hclink : (Cond.classLink own index nm).before args s = true) (hnm : s.vm.findClass nm = some cA)
    (hA : s.vm.classes[cA]? = some kA) (hA2 : kA.kind = .array cy (.array ty)) (hC : s.vm.classes[cy]? = some kC) (hC2 : kC.kind = .array cz ty) {n k : Int32} {N K : Nat} (hn : ¬ n < 0) (hk : ¬ k < 0) (hN : n.toNatClampNeg = N) (hK : k.toNatClampNeg = K) (hb1 : N * 4 ≤ 536870912) (hb2 : K * componentBytes ty ≤ 536870912) (hb3 : K ≤ 536870912)
    (hdf : fits ty (defaultValue ty) = true) (hcells : cells + (1 + N) ≤ R.cells) (hslots : slots + (N + N * K) ≤ R.slots) (hdg : decode cc pc = .ok (.multianewarray index 2, 4))
    (kk : ∀ H1 : Heap, H1.size = H.size + 1 + N → H1[H.size]? = some (arrV cA N (gf H.size N)) → (∀ j, j < N → H1[H.size + 1 + j]? = some (arrV cy K (fun _ => defaultValue ty))) → (∀ q, q < H.size → H1[q]? = H[q]?) → W p l e R s m args below meth c H1 locs (cells + 1 + N) (slots + N + N * K) Q (F0 m (pc + 4) ls (.ref H.size :: rest))) :
    W p l e R s m args below meth c H locs cells slots Q (F0 m pc ls (.int k :: .int n :: rest)) := by
  intro T hT X
  subst hT
  obtain ⟨c0, hfc, hcl⟩ := Cond.classLink_spec hown hclink e.platform (by rw [X.admits.platform])
  cases hnm.symm.trans hfc
  obtain ⟨hg1, hw1, hy1⟩ := State.classEntry (e := e) X.warmed hcl
  generalize T.vm.noted m.cls index (.cls cA) = vm1 at hg1 hw1 hy1
  obtain ⟨kA1, hkA1, eA⟩ := hw1.alike.2.2 _ _ hA
  obtain ⟨kC1, hkC1, eC⟩ := hw1.alike.2.2 _ _ hC
  have X1 := gd_stand (X.noted hw1) cA cy N K (defaultValue ty) N
  obtain ⟨f1, f2, f3, f4, -, -⟩ := gd_F (T.setVm vm1) cA cy N K (defaultValue ty) N
  obtain ⟨t, st, qt⟩ := kk _ f1 f2 f3 f4 _ rfl X1
  refine ⟨t, ?_, qt⟩
  obtain ⟨hr1, hr2⟩ := X.roomAbove hcells hslots
  have hl1 : ¬ N > e.platform.arrayLengthLimit := by rw [Launch.admits_arrayLengthLimit X.admits]; omega
  have hh1 : ¬ N * componentBytes (.array ty) > e.platform.maxHeapBytes := by
    rw [Launch.admits_maxHeapBytes X.admits]
    show ¬ N * 4 > 536870912
    omega
  have hl2 : ¬ K > e.platform.arrayLengthLimit := by rw [Launch.admits_arrayLengthLimit X.admits]; omega
  have hh2 : ¬ K * componentBytes ty > e.platform.maxHeapBytes := by rw [Launch.admits_maxHeapBytes X.admits]; omega
  jvm_step X.here [hexec, hb, hdg]
  simp only [Jvm.Op.multianewarray.sem, wp_bind', W.resolveClassAt_links (mm := m) (t := T.setTop (F0 m pc ls (.int k :: .int n :: rest))) (vm' := vm1) (State.method?_setTop (F0 m pc ls (.int k :: .int n :: rest)) X.here.top) hg1]
  rw [W.popN, if_neg (by decide)]
  refine ⟨_, State.topJava?_setTop' (s := T.setVm vm1) _ X.here.top, [.int n, .int k], rest, rfl, rfl, ?_⟩
  simp only [List.mapM_cons, List.mapM_nil, wp_bind', wp_pure']
  have eS : ((T.setTop (F0 m pc ls (.int k :: .int n :: rest))).setVm vm1).setTop (F0 m pc ls rest) = (T.setVm vm1).setTop (F0 m pc ls rest) := by
    show ((T.setVm vm1).setTop (F0 m pc ls (.int k :: .int n :: rest))).setTop _ = _
    rw [State.setTop_setTop]
  show wp (Jvm.Op.multianewarray.make cA [n, k]) _ _ e _ _ (((T.setTop (F0 m pc ls (.int k :: .int n :: rest))).setVm vm1).setTop (F0 m pc ls rest))
  rw [eS]
  refine gd_make (s := (T.setVm vm1).setTop (F0 m pc ls rest)) (kA := kA1) (kC := kC1) (ty := ty) hkA1 (by rw [eA]; exact hA2) hkC1 (by rw [eC]; exact hC2) hn hk hN hK hl1 hh1 hl2 hh2 hdf hr1 hr2 (fun d1 acts1 => ?_)
  rw [gd_top]
  simp only [wp_bind', W.mark, W.pushRef, State.topJava?_setTop' _ X1.here.top, Option.some.injEq, exists_eq_left', State.setTop_setTop, State.heap_setTop]
  intro acts2
  simp [jvm, X1.here.top]
  exact st
end WGRID
