/-! THE LOGICAL MACHINE, 4: ends of a method, contracts out of runs, calls. -/
theorem pV_category {g : GG} {U : State} {H : Heap} (hE : EnU g U H) (v : Value) : (pV g v).category = v.category := by
  cases v with
  | retAddr pc =>
    show (gZ g).category = 1
    rcases hE.2.2.2.2.2.2.1 with e | ⟨t, e⟩ <;> rw [e] <;> rfl
  | _ => rfl
theorem pV_sum {g : GG} {U : State} {H : Heap} (hE : EnU g U H) : ∀ l : List Value, ((l.map (pV g)).map fun v => v.category).sum = (l.map fun v => v.category).sum
  | [] => rfl
  | v :: l => by rw [List.map_cons, List.map_cons, List.map_cons, List.sum_cons, List.sum_cons, pV_category hE v, pV_sum hE l]
theorem lv_args_1 : ∀ (vs : List Value) (k : Nat), (∀ v ∈ vs, v.category = 1) → ∀ (i : Nat) (v : Value), vs[i]? = some v → (k + i, v) ∈ lv_args k vs
  | [], k, _, i, v, h => by simp at h
  | w :: vs, k, hc, i, v, h => by
    have hw : ¬ w.category = 2 := by have := hc w List.mem_cons_self; omega
    unfold lv_args
    rw [if_neg hw]
    cases i with
    | zero =>
      rw [List.getElem?_cons_zero] at h
      cases h
      exact List.mem_cons_self
    | succ i =>
      rw [List.getElem?_cons_succ] at h
      have := lv_args_1 vs (k + 1) (fun v hv => hc v (List.mem_cons_of_mem _ hv)) i v h
      rw [show k + (i + 1) = k + 1 + i by omega]
      exact List.mem_cons_of_mem _ this
theorem lg_sl_1 : ∀ (vs : List Value), (∀ v ∈ vs, v.category = 1) → (lg_sl vs).length = vs.length
  | [], _ => rfl
  | w :: vs, hc => by
    have hw : ¬ w.category = 2 := by have := hc w List.mem_cons_self; omega
    have ih := lg_sl_1 vs (fun v hv => hc v (List.mem_cons_of_mem _ hv))
    unfold lg_sl at ih ⊢
    rw [List.flatMap_cons, if_neg hw, List.length_append, ih]
    simp [Nat.add_comm]
section ENDS
variable {g : GG} {M : Mt} {d n0 nf : Nat} {post : Option Value → LX → Prop} {n pc : Nat} {L : List (Option Value)} {st : List Value} {X : LX}
theorem ev_iret {v : Int32} {ty : FieldType} (hd : decode (mC M) pc = .ok (.ireturn, 1)) (hr : mR M = some ty) (hn : narrow ty (.int v) = .int v) (hp : post (some (.int v)) X) : Ev g M d n0 nf post nf pc L [.int v] X := by
  intro p e s m args below meth c C hPs hle H locs ls hW hS hl
  exact W.zret (ty := ty) C.1 C.2.1 (C.2.2.2.1.trans hr) hn (fun t ht _ => ⟨⟨some (.int v), X, rfl, hp, by rw [ht]; exact hW⟩, hS.F ht⟩) (fun q hq => hS.2.2 q hq) hd C.2.2.2.2.1
theorem ev_aret {r : Nat} {rt : FieldType} (hd : decode (mC M) pc = .ok (.areturn, 1)) (hr : mR M = some rt) (hrt : (∃ n, rt = .object n) ∨ ∃ t, rt = .array t) (hp : post (some (.ref r)) X) : Ev g M d n0 nf post nf pc L [.ref r] X := by
  intro p e s m args below meth c C hPs hle H locs ls hW hS hl
  exact W.aret (v := .ref (pA g r)) (rt := rt) C.1 C.2.1 (C.2.2.2.1.trans hr) hrt (Or.inr ⟨_, rfl⟩) (fun t ht _ => ⟨⟨some (.ref r), X, rfl, hp, by rw [ht]; exact hW⟩, hS.F ht⟩) (fun q hq => hS.2.2 q hq) hd C.2.2.2.2.1
theorem ev_ret (hd : decode (mC M) pc = .ok (.return_, 1)) (hr : mR M = none) (hp : post none X) : Ev g M d n0 nf post nf pc L [] X := by
  intro p e s m args below meth c C hPs hle H locs ls hW hS hl
  exact W.vret C.1 C.2.1 (C.2.2.2.1.trans hr) (fun t ht _ => ⟨⟨none, X, rfl, hp, by rw [ht]; exact hW⟩, hS.F ht⟩) (fun q hq => hS.2.2 q hq) hd C.2.2.2.2.1
/-- a contract out of the run from the entry -/
theorem ex_of {av : List Value} (hv : vM M) (hL : av.length ≤ mL M) (hc : ∀ v ∈ av, v.category = 1) (k : Ev g M d n0 nf post n0 0 (av.map some ++ List.replicate (mL M - av.length) none) [] X) : Ex g M d n0 nf av X post := by
  refine Met.ofW (cc := mC M) (maxL := mL M) (ret := mR M) (ws' := GT) hv.1 rfl ?_
  intro p e s m args below meth c s₁ B hml hpre
  obtain ⟨rfl, hE, hWd⟩ := hpre
  have hts := atoms_spec (ws := mW M) B.pre
  have hcat : ∀ v ∈ av.map (pV g), v.category = 1 := by
    intro v hv'
    obtain ⟨w, hw, rfl⟩ := List.mem_map.mp hv'
    rw [pV_category hE]
    exact hc w hw
  have hlen : (lg_sl (av.map (pV g))).length ≤ mL M := by rw [lg_sl_1 _ hcat, List.length_map]; exact hL
  have hl := lv_entry (av.map (pV g)) (n := mL M) hlen
  rw [lg_entry_eq]
  have hLV : LV g ((lg_sl (av.map (pV g)) ++ List.replicate (mL M - (lg_sl (av.map (pV g))).length) Slot.unset).toArray) (mL M) (av.map some ++ List.replicate (mL M - av.length) none) := by
    refine ⟨hl.1, hl.2.1, fun i v hi => ?_⟩
    have hi2 : av[i]? = some v := by
      by_cases h : i < av.length
      · rw [List.getElem?_append_left (by rw [List.length_map]; exact h), List.getElem?_map] at hi
        cases ha : av[i]? with
        | none => rw [ha] at hi; cases hi
        | some w => rw [ha] at hi; cases hi; rfl
      · rw [List.getElem?_append_right (by rw [List.length_map]; omega)] at hi
        have := List.mem_of_getElem? hi
        have := List.eq_of_mem_replicate this
        cases this
    have hi3 : (av.map (pV g))[i]? = some (pV g v) := by rw [List.getElem?_map, hi2]; rfl
    have h4 := lv_args_1 _ 0 hcat i _ hi3
    rw [Nat.zero_add] at h4
    exact ⟨hcat _ (List.mem_of_getElem? hi3), hl.2.2 _ h4⟩
  have K := k p e s m _ below meth c ⟨B.exec, B.bytes, hml, B.returns, B.notSynchronized, findClass_of_methodNamed B.named, fun w hw => hts w (List.mem_cons_of_mem _ hw), hE, fun h => (name_of_methodNamed B.named B.method).1.trans h⟩ trivial (Nat.le_refl _) s.heap [] _ hWd va_S.rf hLV
  rw [Nat.sub_self, Nat.sub_self] at K
  exact K
theorem Qp_mono {g : GG} {nf : Nat} {p1 p2 : Option Value → LX → Prop} (h : ∀ v X, p1 v X → p2 v X) {a : Array Value} {s t : State} {o : Outcome} (q : Qp g nf p1 a s o t) : Qp g nf p2 a s o t := by
  obtain ⟨⟨v, X, h1, h2, h3⟩, h4⟩ := q
  exact ⟨⟨v, X, h1, h v X h2, h3⟩, h4⟩
end ENDS
section CALLS
variable {g : GG} {M : Mt} {R : Room} {Qf : State → Array Value → List Frame → State → Prop} {Ps : State → Prop} {n0 n pc : Nat} {L : List (Option Value)} {st : List Value} {X : LX}
/-- behind a call -/
theorem ev_after {n1 : Nat} {rest : List Value} {a : Array Value} {post1 : Option Value → LX → Prop}
    (hrun : ∀ (p : Program) (e : Env) (s : State) (m : MethodId) (args : Array Value) (below : List Frame) (meth : Method) (c : Code), Cx g M p s m args meth c → n0 ≤ n → ∀ (H : Heap) (locs : List Loc) (ls : Array Slot), Wd g n X H → va_S (gA g) s.heap H locs → LV g ls (mL M) L →
      va_Run p (gL g) e R s m args below meth c H locs (n - n0) (sS n - sS n0) (n1 - n) (sS n1 - sS n) (F0 m pc ls (st.map (pV g))) (rest.map (pV g)) (Qp g n1 post1 a) (gA g))
    (hn : n ≤ n1) (k : ∀ v X1, post1 v X1 → EvQ g M R Qf Ps n0 n1 (pc + 3) L (v.toList ++ rest) X1) : EvQ g M R Qf Ps n0 n pc L st X := by
  intro p e s m args below meth c C hPs hle H locs ls hW hS hl T hT Xs
  obtain ⟨v, st₀, t, T', L', h0, X', hL, e1, e2, ⟨⟨v', X1, hv, hp, hw⟩, hz, hk⟩, stp⟩ := hrun p e s m args below meth c C hle H locs ls hW hS hl T hT Xs
  cases hv
  rw [h0] at hz hk
  have hc1 : n - n0 + (n1 - n) = n1 - n0 := by omega
  have hc2 : sS n - sS n0 + (sS n1 - sS n) = sS n1 - sS n0 := by have := sS_mono hle; have := sS_mono hn; omega
  rw [hc1, hc2] at X'
  obtain ⟨t2, a1, b1⟩ := k v' X1 hp p e s m args below meth c C hPs (Nat.le_trans hle hn) T'.heap (locs ++ L') ls (by rw [e1]; exact hw)
    ⟨Nat.le_trans hS.1 (by rw [e1]; exact hz), fun q h1 h2 => by rw [e1, hk q (Nat.lt_of_lt_of_le h1 hS.1) h2]; exact hS.2.1 q h1 h2, fun q hq => by
      rcases List.mem_append.mp hq with h | h
      · exact hS.2.2 q h
      · exact hL q h⟩ hl T' rfl X'
  have hst : (v'.map (pV g)).toList ++ rest.map (pV g) = (v'.toList ++ rest).map (pV g) := by cases v' <;> rfl
  refine ⟨t2, stp t2 ?_, b1⟩
  rw [hst]
  exact a1
theorem ex_blind {g : GG} {n0 : Nat} {av : List Value} {X : LX} : FrameBlind (va_Pc (av.map (pV g)) (fun U => EnU g U U.heap ∧ Wd g n0 X U.heap)) := fun a U f mk h => ⟨h.1, EnU.blind h.2.1, h.2.2⟩
theorem gt_in {Mc : Mt} (hM : vM Mc) : GoodIn GT (mW Mc) := by
  intro w hw
  rcases List.mem_cons.mp hw with h | h
  · rw [h]; exact ⟨hM.2.1, gt_good hM.2.1⟩
  · exact ⟨h, gt_good h⟩
/-- receivers: one of our objects; a text -/
def rcv (g : GG) (n : Nat) (X : LX) (r : Nat) (C : String) : Prop := ∀ (s : State) (H : Heap) (locs : List Loc), EnU g s s.heap → va_S (gA g) s.heap H locs → Wd g n X H → ∃ cell : Cell, H[pA g r]? = some cell ∧ cell.vm.isStatics = false ∧ s.vm.findClass C = some cell.cls
theorem rcv_o {r ci : Nat} {C : String} (hr : r < n) (hly : LY r = (4 + ci, cNf ci)) (hci : ci < 13) (hC : cN ci = C) : rcv g n X r C := by
  intro s H locs hE hS hW
  have hr2 : r < 226 := LY_lt (by rw [hly]; show 4 + ci < 99; omega)
  have hat := wl_at (g := g) (X := X) hr
  rw [cE_o hly] at hat
  rw [pA_of hr2, ← hC]
  exact va_recv hE.1 hW.2 (cl_13 hci) hat
theorem rcv_t {i : Nat} (hi : i < 14) : rcv g n X (1000 + i) "java/lang/String" := by
  intro s H locs hE hS hW
  have e : pA g (1000 + i) = gS g i := by unfold pA; rw [if_neg (by omega), Nat.add_sub_cancel_left]
  rw [e]
  exact vk_recv hE.2.2.2.1 hi hS
/-- calls: Mc the method called, its contract from here on -/
theorem ev_callV {Mc : Mt} {r i n1 d' : Nat} {as rest : List Value} {post1 : Option Value → LX → Prop} (hd : decode (mC M) pc = .ok (.invokevirtual i, 3)) (hM : vM Mc) (hw1 : Cond.methodLink (mY M).cls i (mY Mc) ∈ GT) (hw2 : Cond.instanceMethod (mY Mc) ∈ GT) (hw3 : Cond.selects (mY Mc).cls (mY Mc) (mY Mc) ∈ GT)
    (hnp : (parseMethodDescriptor (mY Mc).desc).map (fun d => d.parameters.length) = some as.length) (hrc : rcv g n X r (mY Mc).cls) (hdd : d' + 1 ≤ R.frames) (hdl : 64 * (d' + 1) ≤ R.locals) (hL : mL Mc ≤ 45) (hst : st = as.reverse ++ .ref r :: rest) (hs8 : (rest.map fun v => v.category).sum ≤ 8) (hn : n ≤ n1) (hnf : n1 - n0 ≤ R.cells) (hns : sS n1 - sS n0 ≤ R.slots)
    (hEx : Ex g Mc d' n n1 (.ref r :: as) X post1) (k : ∀ v X1, post1 v X1 → EvQ g M R Qf Ps n0 n1 (pc + 3) L (v.toList ++ rest) X1) : EvQ g M R Qf Ps n0 n pc L st X :=
  ev_after (a := (((.ref r :: as : List Value)).map (pV g)).toArray) (fun p e s m args below meth c C hle H locs ls hW hS hl => by
    have hE := C.2.2.2.2.2.2.2.1
    refine va_runV (nL := mL M) (own := (mY M).cls) (C := (mY Mc).cls) (b := pA g r) (As := as.map (pV g)) (Ts := GT) (n := as.length) (bytes := mC Mc) (maxL := mL Mc) (ret := mR Mc) (g := F0 m pc ls (st.map (pV g))) (rest := rest.map (pV g)) ⟨C.1, C.2.1, C.2.2.1, C.2.2.2.2.2.1, C.2.2.2.2.2.2.1⟩ hEx
      ⟨callB_of (ws' := GT) as.length C.2.2.2.2.2.2.1 (gt_in hM) rfl rfl rfl (C.2.2.2.2.2.2.1 _ hM.2.2.1) (C.2.2.2.2.2.2.1 _ hw1) ⟨hM.2.2.2.1, hM.2.2.2.2, hnp⟩ ⟨hdd, by show 8 + (mL Mc + 11) + 64 * d' ≤ R.locals; omega⟩, C.2.2.2.2.2.2.1 _ hw2, C.2.2.2.2.2.2.1 _ hw3⟩
      ⟨ex_blind, hrc s H locs hE hS hW, fun U hU hWm => ⟨rfl, by rw [hU]; exact EnU.warm hWm hS hE, by rw [hU]; exact hW⟩⟩ rfl (by rw [List.length_map]) hl.1 ?_ ?_ hd ⟨?_, ?_⟩
    · show st.map (pV g) = _
      rw [hst, List.map_append, List.map_reverse]
      rfl
    · exact lv_room (by rw [pV_sum hE]; exact hs8)
    · show n - n0 + (n1 - n) ≤ R.cells
      omega
    · show sS n - sS n0 + (sS n1 - sS n) ≤ R.slots
      have := sS_mono hle; have := sS_mono hn; omega) hn k
theorem ev_callS {Mc : Mt} {i n1 d' : Nat} {as rest : List Value} {post1 : Option Value → LX → Prop} (hd : decode (mC M) pc = .ok (.invokestatic i, 3)) (hM : vM Mc) (hw1 : Cond.methodLink (mY M).cls i (mY Mc) ∈ GT) (hw2 : Cond.static (mY Mc) ∈ GT)
    (hnp : (parseMethodDescriptor (mY Mc).desc).map (fun d => d.parameters.length) = some as.length) (hdd : d' + 1 ≤ R.frames) (hdl : 64 * (d' + 1) ≤ R.locals) (hL : mL Mc ≤ 45) (hst : st = as.reverse ++ rest) (hs8 : (rest.map fun v => v.category).sum ≤ 8) (hn : n ≤ n1) (hnf : n1 - n0 ≤ R.cells) (hns : sS n1 - sS n0 ≤ R.slots)
    (hEx : Ex g Mc d' n n1 as X post1) (k : ∀ v X1, post1 v X1 → EvQ g M R Qf Ps n0 n1 (pc + 3) L (v.toList ++ rest) X1) : EvQ g M R Qf Ps n0 n pc L st X :=
  ev_after (a := (as.map (pV g)).toArray) (fun p e s m args below meth c C hle H locs ls hW hS hl => by
    have hE := C.2.2.2.2.2.2.2.1
    refine va_runS (nL := mL M) (own := (mY M).cls) (As := as.map (pV g)) (Ts := GT) (n := as.length) (bytes := mC Mc) (maxL := mL Mc) (ret := mR Mc) (g := F0 m pc ls (st.map (pV g))) (rest := rest.map (pV g)) ⟨C.1, C.2.1, C.2.2.1, C.2.2.2.2.2.1, C.2.2.2.2.2.2.1⟩ hEx
      ⟨callB_of (ws' := GT) as.length C.2.2.2.2.2.2.1 (gt_in hM) rfl rfl rfl (C.2.2.2.2.2.2.1 _ hM.2.2.1) (C.2.2.2.2.2.2.1 _ hw1) ⟨hM.2.2.2.1, hM.2.2.2.2, hnp⟩ ⟨hdd, by show 8 + (mL Mc + 11) + 64 * d' ≤ R.locals; omega⟩, C.2.2.2.2.2.2.1 _ hw2⟩
      ⟨ex_blind, fun U hU hWm => ⟨rfl, by rw [hU]; exact EnU.warm hWm hS hE, by rw [hU]; exact hW⟩⟩ rfl (by rw [List.length_map]) hl.1 ?_ ?_ hd ⟨?_, ?_⟩
    · show st.map (pV g) = _
      rw [hst, List.map_append, List.map_reverse]
    · exact lv_room (by rw [pV_sum hE]; exact hs8)
    · show n - n0 + (n1 - n) ≤ R.cells
      omega
    · show sS n - sS n0 + (sS n1 - sS n) ≤ R.slots
      have := sS_mono hle; have := sS_mono hn; omega) hn k
theorem ev_callSN {Mc : Mt} {i n1 d' : Nat} {as rest : List Value} {post1 : Option Value → LX → Prop} {w : nE} (hd : decode (mC M) pc = .ok (.invokestatic i, 3)) (hM : vM Mc) (hw1 : w ∈ nTl) (hw1a : w.1 = (mY M).cls) (hw1b : w.2.1 = i) (hw1c : w.2.2.1 = mY Mc) (hw2 : Cond.static (mY Mc) ∈ GT)
    (hnp : (parseMethodDescriptor (mY Mc).desc).map (fun d => d.parameters.length) = some as.length) (hdd : d' + 1 ≤ R.frames) (hdl : 64 * (d' + 1) ≤ R.locals) (hL : mL Mc ≤ 45) (hst : st = as.reverse ++ rest) (hs8 : (rest.map fun v => v.category).sum ≤ 8) (hn : n ≤ n1) (hnf : n1 - n0 ≤ R.cells) (hns : sS n1 - sS n0 ≤ R.slots)
    (hEx : Ex g Mc d' n n1 as X post1) (k : ∀ v X1, post1 v X1 → EvQ g M R Qf Ps n0 n1 (pc + 3) L (v.toList ++ rest) X1) : EvQ g M R Qf Ps n0 n pc L st X :=
  ev_after (a := (as.map (pV g)).toArray) (fun p e s m args below meth c C hle H locs ls hW hS hl => by
    have hE := C.2.2.2.2.2.2.2.1
    have hN : va_Nw (.methodLinkNest (mY M).cls i (mY Mc) RX11) s := by
      have h := hE.2.1 w hw1
      unfold nW at h
      rw [hw1a, hw1b, hw1c] at h
      exact h
    refine va_runSN (nL := mL M) (own := (mY M).cls) (host := RX11) (As := as.map (pV g)) (Ts := GT) (n := as.length) (bytes := mC Mc) (maxL := mL Mc) (ret := mR Mc) (g := F0 m pc ls (st.map (pV g))) (rest := rest.map (pV g)) ⟨C.1, C.2.1, C.2.2.1, C.2.2.2.2.2.1, C.2.2.2.2.2.2.1⟩ hEx
      ⟨va_cnB (ws' := GT) as.length C.2.2.2.2.2.2.1 (gt_in hM) rfl rfl rfl hN (C.2.2.2.2.2.2.1 _ hM.2.2.1) ⟨hM.2.2.2.1, hM.2.2.2.2, hnp⟩ ⟨hdd, by show 8 + (mL Mc + 11) + 64 * d' ≤ R.locals; omega⟩, C.2.2.2.2.2.2.1 _ hw2, trivial⟩
      ⟨ex_blind, fun U hU hWm => ⟨rfl, by rw [hU]; exact EnU.warm hWm hS hE, by rw [hU]; exact hW⟩⟩ rfl (by rw [List.length_map]) hl.1 ?_ ?_ hd ⟨?_, ?_⟩
    · show st.map (pV g) = _
      rw [hst, List.map_append, List.map_reverse]
    · exact lv_room (by rw [pV_sum hE]; exact hs8)
    · show n - n0 + (n1 - n) ≤ R.cells
      omega
    · show sS n - sS n0 + (sS n1 - sS n) ≤ R.slots
      have := sS_mono hle; have := sS_mono hn; omega) hn k
theorem ev_callI {Mc : Mt} {r i n1 d' : Nat} {as rest : List Value} {post1 : Option Value → LX → Prop} (hd : decode (mC M) pc = .ok (.invokespecial i, 3)) (hM : vM Mc) (hret : mR Mc = none) (hw1 : Cond.methodLink (mY M).cls i (mY Mc) ∈ GT) (hw2 : Cond.instanceMethod (mY Mc) ∈ GT) (hy : (mY Mc).name = "<init>")
    (hnp : (parseMethodDescriptor (mY Mc).desc).map (fun d => d.parameters.length) = some as.length) (hdd : d' + 1 ≤ R.frames) (hdl : 64 * (d' + 1) ≤ R.locals) (hL : mL Mc ≤ 45) (hst : st = as.reverse ++ .ref r :: rest) (hs8 : (rest.map fun v => v.category).sum ≤ 8) (hn : n ≤ n1) (hnf : n1 - n0 ≤ R.cells) (hns : sS n1 - sS n0 ≤ R.slots)
    (hEx : Ex g Mc d' n n1 (.ref r :: as) X post1) (k : ∀ v X1, post1 v X1 → EvQ g M R Qf Ps n0 n1 (pc + 3) L (v.toList ++ rest) X1) : EvQ g M R Qf Ps n0 n pc L st X :=
  ev_after (a := (((.ref r :: as : List Value)).map (pV g)).toArray) (fun p e s m args below meth c C hle H locs ls hW hS hl => by
    have hE := C.2.2.2.2.2.2.2.1
    have hM2 : Cond.code (mY Mc) (mC Mc) (mL Mc) none ∈ GT := by have := hM.2.1; rw [hret] at this; exact this
    refine va_runI (nL := mL M) (own := (mY M).cls) (b := pA g r) (As := as.map (pV g)) (Ts := GT) (n := as.length) (bytes := mC Mc) (maxL := mL Mc) (g := F0 m pc ls (st.map (pV g))) (rest := rest.map (pV g)) ⟨C.1, C.2.1, C.2.2.1, C.2.2.2.2.2.1, C.2.2.2.2.2.2.1⟩ hEx
      ⟨callB_of (ws' := GT) as.length C.2.2.2.2.2.2.1 (gt_in hM) (by unfold mW; rw [hret]) rfl rfl (C.2.2.2.2.2.2.1 _ hM.2.2.1) (C.2.2.2.2.2.2.1 _ hw1) ⟨hM.2.2.2.1, hM.2.2.2.2, hnp⟩ ⟨hdd, by show 8 + (mL Mc + 11) + 64 * d' ≤ R.locals; omega⟩, hy, C.2.2.2.2.2.2.1 _ hw2⟩
      ⟨ex_blind, fun U hU hWm => ⟨rfl, by rw [hU]; exact EnU.warm hWm hS hE, by rw [hU]; exact hW⟩⟩ rfl (by rw [List.length_map]) hl.1 ?_ ?_ hd ⟨?_, ?_⟩
    · show st.map (pV g) = _
      rw [hst, List.map_append, List.map_reverse]
      rfl
    · exact lv_room (by rw [pV_sum hE]; exact hs8)
    · show n - n0 + (n1 - n) ≤ R.cells
      omega
    · show sS n - sS n0 + (sS n1 - sS n) ≤ R.slots
      have := sS_mono hle; have := sS_mono hn; omega) hn k
theorem ev_callIN {Mc : Mt} {r i n1 d' : Nat} {as rest : List Value} {post1 : Option Value → LX → Prop} {w : nE} (hd : decode (mC M) pc = .ok (.invokespecial i, 3)) (hM : vM Mc) (hret : mR Mc = none) (hw1 : w ∈ nTl) (hw1a : w.1 = (mY M).cls) (hw1b : w.2.1 = i) (hw1c : w.2.2.1 = mY Mc) (hw2 : Cond.instanceMethod (mY Mc) ∈ GT) (hy : (mY Mc).name = "<init>")
    (hnp : (parseMethodDescriptor (mY Mc).desc).map (fun d => d.parameters.length) = some as.length) (hdd : d' + 1 ≤ R.frames) (hdl : 64 * (d' + 1) ≤ R.locals) (hL : mL Mc ≤ 45) (hst : st = as.reverse ++ .ref r :: rest) (hs8 : (rest.map fun v => v.category).sum ≤ 8) (hn : n ≤ n1) (hnf : n1 - n0 ≤ R.cells) (hns : sS n1 - sS n0 ≤ R.slots)
    (hEx : Ex g Mc d' n n1 (.ref r :: as) X post1) (k : ∀ v X1, post1 v X1 → EvQ g M R Qf Ps n0 n1 (pc + 3) L (v.toList ++ rest) X1) : EvQ g M R Qf Ps n0 n pc L st X :=
  ev_after (a := (((.ref r :: as : List Value)).map (pV g)).toArray) (fun p e s m args below meth c C hle H locs ls hW hS hl => by
    have hE := C.2.2.2.2.2.2.2.1
    have hM2 : Cond.code (mY Mc) (mC Mc) (mL Mc) none ∈ GT := by have := hM.2.1; rw [hret] at this; exact this
    have hN : va_Nw (.methodLinkNest (mY M).cls i (mY Mc) RX11) s := by
      have h := hE.2.1 w hw1
      unfold nW at h
      rw [hw1a, hw1b, hw1c] at h
      exact h
    refine va_runIN (nL := mL M) (own := (mY M).cls) (host := RX11) (b := pA g r) (As := as.map (pV g)) (Ts := GT) (n := as.length) (bytes := mC Mc) (maxL := mL Mc) (g := F0 m pc ls (st.map (pV g))) (rest := rest.map (pV g)) ⟨C.1, C.2.1, C.2.2.1, C.2.2.2.2.2.1, C.2.2.2.2.2.2.1⟩ hEx
      ⟨va_cnB (ws' := GT) as.length C.2.2.2.2.2.2.1 (gt_in hM) (by unfold mW; rw [hret]) rfl rfl hN (C.2.2.2.2.2.2.1 _ hM.2.2.1) ⟨hM.2.2.2.1, hM.2.2.2.2, hnp⟩ ⟨hdd, by show 8 + (mL Mc + 11) + 64 * d' ≤ R.locals; omega⟩, hy, C.2.2.2.2.2.2.1 _ hw2⟩
      ⟨ex_blind, fun U hU hWm => ⟨rfl, by rw [hU]; exact EnU.warm hWm hS hE, by rw [hU]; exact hW⟩⟩ rfl (by rw [List.length_map]) hl.1 ?_ ?_ hd ⟨?_, ?_⟩
    · show st.map (pV g) = _
      rw [hst, List.map_append, List.map_reverse]
      rfl
    · exact lv_room (by rw [pV_sum hE]; exact hs8)
    · show n - n0 + (n1 - n) ≤ R.cells
      omega
    · show sS n - sS n0 + (sS n1 - sS n) ≤ R.slots
      have := sS_mono hle; have := sS_mono hn; omega) hn k
end CALLS
