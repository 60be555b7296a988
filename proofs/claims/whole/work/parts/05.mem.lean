/-! THE LOGICAL MACHINE, 3: branches, fields, arrays. -/
def bC : Jvm.ClassFile.Cond → Int32 → Int32 → Prop
  | .eq, x, y => x = y
  | .ne, x, y => ¬ x = y
  | .lt, x, y => x < y
  | .ge, x, y => y ≤ x
  | .gt, x, y => y < x
  | .le, x, y => x ≤ y
def nC : Jvm.ClassFile.Cond → Int32 → Int32 → Prop
  | .eq, x, y => ¬ x = y
  | .ne, x, y => x = y
  | .lt, x, y => ¬ x < y
  | .ge, x, y => ¬ y ≤ x
  | .gt, x, y => ¬ y < x
  | .le, x, y => ¬ x ≤ y
theorem LYl_len : LYl.length = 226 := by decide +kernel
theorem LY_lt {r : Nat} (h : (LY r).1 < 99) : r < 226 := by
  rcases Nat.lt_or_ge r 226 with q | q
  · exact q
  · exfalso
    have : LY r = (99, 0) := by
      unfold LY
      rw [List.getD_eq_getElem?_getD, List.getElem?_eq_none (by rw [LYl_len]; exact q)]
      rfl
    rw [this] at h
    exact absurd h (by decide)
theorem LY_lens : ∀ e ∈ LYl, e.2 < 3000 := by decide +kernel
theorem LY_len (r : Nat) : (LY r).2 < 3000 := by
  unfold LY
  rw [List.getD_eq_getElem?_getD]
  cases h : LYl[r]? with
  | none => exact (by decide : (0 : Nat) < 3000)
  | some e => exact LY_lens e (List.mem_of_getElem? h)
theorem LY_l {r t len : Nat} (h : LY r = (t, len)) : len < 3000 := by have := LY_len r; rw [h] at this; exact this
theorem pA_of {g : GG} {r : Nat} (h : r < 226) : pA g r = gB g + r := if_pos (by omega)
theorem cl_13 {ci : Nat} (h : ci < 13) : vwCl[ci]? = some (cN ci, cT ci, cNf ci) := by
  rcases (show ci = 0 ∨ ci = 1 ∨ ci = 2 ∨ ci = 3 ∨ ci = 4 ∨ ci = 5 ∨ ci = 6 ∨ ci = 7 ∨ ci = 8 ∨ ci = 9 ∨ ci = 10 ∨ ci = 11 ∨ ci = 12 by omega) with e | e | e | e | e | e | e | e | e | e | e | e | e <;> subst e <;> rfl
theorem cl_in {ci : Nat} (h : ci < 13) : ∀ w ∈ u_ws (cN ci) (cT ci) (cNf ci), w ∈ GT := by
  rcases (show ci = 0 ∨ ci = 1 ∨ ci = 2 ∨ ci = 3 ∨ ci = 4 ∨ ci = 5 ∨ ci = 6 ∨ ci = 7 ∨ ci = 8 ∨ ci = 9 ∨ ci = 10 ∨ ci = 11 ∨ ci = 12 by omega) with e | e | e | e | e | e | e | e | e | e | e | e | e <;> subst e
  · exact inX0
  · exact inX1
  · exact inX2
  · exact inX3
  · exact inX4
  · exact inX5
  · exact inX6
  · exact inX7
  · exact inX8
  · exact inX9
  · exact inX10
  · exact inX11
  · exact inX12
theorem cl_ty {ci : Nat} (h : ci < 13) : ∀ k, k < cNf ci → parseFieldDescriptor (cT ci k).2.2.1 = some (cTy ci k) := by
  rcases (show ci = 0 ∨ ci = 1 ∨ ci = 2 ∨ ci = 3 ∨ ci = 4 ∨ ci = 5 ∨ ci = 6 ∨ ci = 7 ∨ ci = 8 ∨ ci = 9 ∨ ci = 10 ∨ ci = 11 ∨ ci = 12 by omega) with e | e | e | e | e | e | e | e | e | e | e | e | e <;> subst e
  · exact tyX0_ok
  · exact tyX1_ok
  · exact tyX2_ok
  · exact tyX3_ok
  · exact tyX4_ok
  · exact tyX5_ok
  · exact tyX6_ok
  · exact tyX7_ok
  · exact tyX8_ok
  · exact tyX9_ok
  · exact tyX10_ok
  · exact tyX11_ok
  · exact tyX12_ok
theorem cl_nm {ci : Nat} (h : ci < 13) : ∀ a, a < cNf ci → ∀ b, b < cNf ci → a ≠ b → (cT ci a).2.1 ≠ (cT ci b).2.1 := by
  rcases (show ci = 0 ∨ ci = 1 ∨ ci = 2 ∨ ci = 3 ∨ ci = 4 ∨ ci = 5 ∨ ci = 6 ∨ ci = 7 ∨ ci = 8 ∨ ci = 9 ∨ ci = 10 ∨ ci = 11 ∨ ci = 12 by omega) with e | e | e | e | e | e | e | e | e | e | e | e | e <;> subst e
  · exact nmX0
  · exact nmX1
  · exact nmX2
  · exact nmX3
  · exact nmX4
  · exact nmX5
  · exact nmX6
  · exact nmX7
  · exact nmX8
  · exact nmX9
  · exact nmX10
  · exact nmX11
  · exact nmX12
theorem cl_dc : ∀ ci, ci < 13 → ∀ j, j < cNf ci → (cT ci j).1 = cN ci := by decide +kernel
section MEM
variable {g : GG} {M : Mt} {R : Room} {Qf : State → Array Value → List Frame → State → Prop} {Ps : State → Prop} {n0 n pc : Nat} {L : List (Option Value)} {st : List Value} {X : LX}
theorem ev_icmp {c : Jvm.ClassFile.Cond} {x y : Int32} {off : Int} {tgt : Nat} (hd : decode (mC M) pc = .ok (.if_icmp c off, 3)) (ht : (pc : Int) + off = (tgt : Int)) (kt : bC c x y → EvQ g M R Qf Ps n0 n tgt L st X) (kf : nC c x y → EvQ g M R Qf Ps n0 n (pc + 3) L st X) : EvQ g M R Qf Ps n0 n pc L (.int y :: .int x :: st) X := by
  intro p e s m args below meth c' C hPs hn H locs ls hW hS hl
  cases c with
  | eq => exact lv_icmp_eq C.1 C.2.1 hd ht (fun h => kt h p e s m args below meth c' C hPs hn H locs ls hW hS hl) (fun h => kf h p e s m args below meth c' C hPs hn H locs ls hW hS hl)
  | ne => exact lv_icmp_ne C.1 C.2.1 hd ht (fun h => kt h p e s m args below meth c' C hPs hn H locs ls hW hS hl) (fun h => kf h p e s m args below meth c' C hPs hn H locs ls hW hS hl)
  | lt => exact lv_icmp_lt C.1 C.2.1 hd ht (fun h => kt h p e s m args below meth c' C hPs hn H locs ls hW hS hl) (fun h => kf h p e s m args below meth c' C hPs hn H locs ls hW hS hl)
  | ge => exact lv_icmp_ge C.1 C.2.1 hd ht (fun h => kt h p e s m args below meth c' C hPs hn H locs ls hW hS hl) (fun h => kf h p e s m args below meth c' C hPs hn H locs ls hW hS hl)
  | gt => exact lv_icmp_gt C.1 C.2.1 hd ht (fun h => kt h p e s m args below meth c' C hPs hn H locs ls hW hS hl) (fun h => kf h p e s m args below meth c' C hPs hn H locs ls hW hS hl)
  | le => exact lv_icmp_le C.1 C.2.1 hd ht (fun h => kt h p e s m args below meth c' C hPs hn H locs ls hW hS hl) (fun h => kf h p e s m args below meth c' C hPs hn H locs ls hW hS hl)
theorem ev_if {c : Jvm.ClassFile.Cond} {x : Int32} {off : Int} {tgt : Nat} (hd : decode (mC M) pc = .ok (.ifCond c off, 3)) (ht : (pc : Int) + off = (tgt : Int)) (kt : bC c x 0 → EvQ g M R Qf Ps n0 n tgt L st X) (kf : nC c x 0 → EvQ g M R Qf Ps n0 n (pc + 3) L st X) : EvQ g M R Qf Ps n0 n pc L (.int x :: st) X := by
  intro p e s m args below meth c' C hPs hn H locs ls hW hS hl
  cases c with
  | eq => exact lv_if_eq C.1 C.2.1 hd ht (fun h => kt h p e s m args below meth c' C hPs hn H locs ls hW hS hl) (fun h => kf h p e s m args below meth c' C hPs hn H locs ls hW hS hl)
  | ne => exact lv_if_ne C.1 C.2.1 hd ht (fun h => kt h p e s m args below meth c' C hPs hn H locs ls hW hS hl) (fun h => kf h p e s m args below meth c' C hPs hn H locs ls hW hS hl)
  | lt => exact lv_if_lt C.1 C.2.1 hd ht (fun h => kt h p e s m args below meth c' C hPs hn H locs ls hW hS hl) (fun h => kf h p e s m args below meth c' C hPs hn H locs ls hW hS hl)
  | ge => exact lv_if_ge C.1 C.2.1 hd ht (fun h => kt h p e s m args below meth c' C hPs hn H locs ls hW hS hl) (fun h => kf h p e s m args below meth c' C hPs hn H locs ls hW hS hl)
  | gt => exact lv_if_gt C.1 C.2.1 hd ht (fun h => kt h p e s m args below meth c' C hPs hn H locs ls hW hS hl) (fun h => kf h p e s m args below meth c' C hPs hn H locs ls hW hS hl)
  | le => exact lv_if_le C.1 C.2.1 hd ht (fun h => kt h p e s m args below meth c' C hPs hn H locs ls hW hS hl) (fun h => kf h p e s m args below meth c' C hPs hn H locs ls hW hS hl)
theorem bC_not {c : Jvm.ClassFile.Cond} {x y : Int32} (h : bC c x y) : ¬ nC c x y := by cases c <;> simp_all [bC, nC]
/-- the branch is taken / isn't -/
theorem ev_icmpT {c : Jvm.ClassFile.Cond} {x y : Int32} {off : Int} {tgt : Nat} (hd : decode (mC M) pc = .ok (.if_icmp c off, 3)) (ht : (pc : Int) + off = (tgt : Int)) (h : bC c x y) (kt : EvQ g M R Qf Ps n0 n tgt L st X) : EvQ g M R Qf Ps n0 n pc L (.int y :: .int x :: st) X := ev_icmp hd ht (fun _ => kt) (fun q => absurd q (bC_not h))
theorem ev_icmpF {c : Jvm.ClassFile.Cond} {x y : Int32} {off : Int} {tgt : Nat} (hd : decode (mC M) pc = .ok (.if_icmp c off, 3)) (ht : (pc : Int) + off = (tgt : Int)) (h : nC c x y) (kf : EvQ g M R Qf Ps n0 n (pc + 3) L st X) : EvQ g M R Qf Ps n0 n pc L (.int y :: .int x :: st) X := ev_icmp hd ht (fun q => absurd h (bC_not q)) (fun _ => kf)
theorem ev_ifT {c : Jvm.ClassFile.Cond} {x : Int32} {off : Int} {tgt : Nat} (hd : decode (mC M) pc = .ok (.ifCond c off, 3)) (ht : (pc : Int) + off = (tgt : Int)) (h : bC c x 0) (kt : EvQ g M R Qf Ps n0 n tgt L st X) : EvQ g M R Qf Ps n0 n pc L (.int x :: st) X := ev_if hd ht (fun _ => kt) (fun q => absurd q (bC_not h))
theorem ev_ifF {c : Jvm.ClassFile.Cond} {x : Int32} {off : Int} {tgt : Nat} (hd : decode (mC M) pc = .ok (.ifCond c off, 3)) (ht : (pc : Int) + off = (tgt : Int)) (h : nC c x 0) (kf : EvQ g M R Qf Ps n0 n (pc + 3) L st X) : EvQ g M R Qf Ps n0 n pc L (.int x :: st) X := ev_if hd ht (fun q => absurd h (bC_not q)) (fun _ => kf)
theorem ev_tabO {df lo hi : Int} {offs : Array Int} {len tgt : Nat} {x : Int32} (hd : decode (mC M) pc = .ok (.tableswitch df lo hi offs, len)) (h : x.toInt < lo ∨ hi < x.toInt) (ht : (pc : Int) + df = (tgt : Int)) (k : EvQ g M R Qf Ps n0 n tgt L st X) : EvQ g M R Qf Ps n0 n pc L (.int x :: st) X :=
  ev_go (fun p e s m args below meth c C R Q cells slots H locs ls hW hS hl kk => lv_tableOut C.1 C.2.1 hd h ht kk) k
theorem ev_tabI {df lo hi off : Int} {offs : Array Int} {len tgt : Nat} {x : Int32} (hd : decode (mC M) pc = .ok (.tableswitch df lo hi offs, len)) (h1 : ¬ x.toInt < lo) (h2 : ¬ hi < x.toInt) (ho : offs[(x.toInt - lo).toNat]? = some off) (ht : (pc : Int) + off = (tgt : Int)) (k : EvQ g M R Qf Ps n0 n tgt L st X) : EvQ g M R Qf Ps n0 n pc L (.int x :: st) X :=
  ev_go (fun p e s m args below meth c C R Q cells slots H locs ls hW hS hl kk => lv_tableIn C.1 C.2.1 hd h1 h2 ho ht kk) k
theorem ev_look {df off : Int} {ps : Array (Int × Int)} {len tgt : Nat} {x : Int32} (hd : decode (mC M) pc = .ok (.lookupswitch df ps, len)) (hp : (ps.toList.zip (ps.toList.drop 1)).all (fun (a, next) => a.1 < next.1) = true) (ho : Op.lookupswitch.offset ps.toList df x.toInt = off) (ht : (pc : Int) + off = (tgt : Int)) (k : EvQ g M R Qf Ps n0 n tgt L st X) : EvQ g M R Qf Ps n0 n pc L (.int x :: st) X :=
  ev_go (fun p e s m args below meth c C R Q cells slots H locs ls hW hS hl kk => lv_lookup C.1 C.2.1 hd hp ho ht kk) k
-- arrays
theorem ev_iald {r len j : Nat} {i : Int32} (hd : decode (mC M) pc = .ok (.iaload, 1)) (hr : r < n) (hly : LY r = (0, len)) (hi : i = nI j) (hj : j < len) (k : EvQ g M R Qf Ps n0 n (pc + 1) L (.int (X r j) :: st) X) : EvQ g M R Qf Ps n0 n pc L (.int i :: .ref r :: st) X :=
  ev_go (fun p e s m args below meth c C R Q cells slots H locs ls hW hS hl kk => by
    have hr2 : r < 226 := LY_lt (by rw [hly]; show 0 < 99; omega)
    have hl2 := LY_l hly
    have hat := wl_at (g := g) (X := X) hr
    rw [cE_0 hly] at hat
    have e1 : pV g (.ref r) = .ref (gB g + r) := by show Value.ref (pA g r) = _; rw [pA_of hr2]
    rw [List.map_cons, List.map_cons, e1]
    subst hi
    refine va_iald C.1 C.2.1 C.2.2.2.2.2.2.2.1.1 hW.2 r 0 hat rfl (vp_in_nI hj (by omega)) hd ?_
    rw [nI_clamp (by omega)]
    exact kk) k
theorem ev_sald {r len j : Nat} {i : Int32} (hd : decode (mC M) pc = .ok (.saload, 1)) (hr : r < n) (hly : LY r = (1, len)) (hi : i = nI j) (hj : j < len) (k : EvQ g M R Qf Ps n0 n (pc + 1) L (.int (X r j) :: st) X) : EvQ g M R Qf Ps n0 n pc L (.int i :: .ref r :: st) X :=
  ev_go (fun p e s m args below meth c C R Q cells slots H locs ls hW hS hl kk => by
    have hr2 : r < 226 := LY_lt (by rw [hly]; show 1 < 99; omega)
    have hl2 := LY_l hly
    have hat := wl_at (g := g) (X := X) hr
    rw [cE_1 hly] at hat
    have e1 : pV g (.ref r) = .ref (gB g + r) := by show Value.ref (pA g r) = _; rw [pA_of hr2]
    rw [List.map_cons, List.map_cons, e1]
    subst hi
    refine va_sald C.1 C.2.1 C.2.2.2.2.2.2.2.1.1 hW.2 r 1 hat rfl (vp_in_nI hj (by omega)) hd ?_
    rw [nI_clamp (by omega)]
    exact kk) k
theorem ev_iast {r len j : Nat} {i x : Int32} (hd : decode (mC M) pc = .ok (.iastore, 1)) (hr : r < n) (hly : LY r = (0, len)) (hi : i = nI j) (hj : j < len) (k : EvQ g M R Qf Ps n0 n (pc + 1) L st (lx_up X r j x)) : EvQ g M R Qf Ps n0 n pc L (.int x :: .int i :: .ref r :: st) X :=
  ev_wr (fun p e s m args below meth c C R Q cells slots H locs ls hW hS hl kk => by
    have hr2 : r < 226 := LY_lt (by rw [hly]; show 0 < 99; omega)
    have hl2 := LY_l hly
    have hat := wl_at (g := g) (X := X) hr
    rw [cE_0 hly] at hat
    have e1 : pV g (.ref r) = .ref (gB g + r) := by show Value.ref (pA g r) = _; rw [pA_of hr2]
    have e2 : (wl g n X).set r (gB g + r, .inl (gC g 0, len, .inl (upd (X r) j x))) = wl g n (lx_up X r j x) := by
      rw [← wl_set (X := X) (X' := lx_up X r j x) (k := r) (fun a ha => if_neg ha), cE_0 hly]
      simp [lx_up]
    rw [List.map_cons, List.map_cons, List.map_cons, e1]
    subst hi
    have hin : vp_in (nI j) len := vp_in_nI hj (by omega)
    refine W.iast C.1 C.2.1 (hW.2 r _ hat) ((C.2.2.2.2.2.2.2.1.1.2 0 _ rfl).1 len (fun j => .int (X r j))) (fun q => by cases q) (by show ¬ (nI j < 0 ∨ (arrV _ _ _).slots.size ≤ _); rw [arrV_size]; exact hin) rfl rfl hd fun H1 e z oq => ?_
    have hP' := hW.2.set (wl_D g n X) hat (e := .inl (gC g 0, len, .inl (upd (X r) j x))) (by
      show H1[gB g + r]? = some (vp_cell _ _)
      rw [e]
      rw [vp_cell_i, vp_cell_i, arrV_store]
      congr 2
      funext q
      rw [nI_clamp (by omega)]
      by_cases hq : q = j
      · subst hq
        simp [updV, upd]
      · simp [updV, upd, hq]) oq
    rw [e2] at hP'
    exact kk H1 _ hP' (hS.put z oq ((wl_D g n X).2 r _ hat)) z) k
theorem ev_sast {r len j : Nat} {i x : Int32} (hd : decode (mC M) pc = .ok (.sastore, 1)) (hr : r < n) (hly : LY r = (1, len)) (hi : i = nI j) (hj : j < len) (k : EvQ g M R Qf Ps n0 n (pc + 1) L st (lx_up X r j x.toInt16.toInt32)) : EvQ g M R Qf Ps n0 n pc L (.int x :: .int i :: .ref r :: st) X :=
  ev_wr (fun p e s m args below meth c C R Q cells slots H locs ls hW hS hl kk => by
    have hr2 : r < 226 := LY_lt (by rw [hly]; show 1 < 99; omega)
    have hl2 := LY_l hly
    have hat := wl_at (g := g) (X := X) hr
    rw [cE_1 hly] at hat
    have e1 : pV g (.ref r) = .ref (gB g + r) := by show Value.ref (pA g r) = _; rw [pA_of hr2]
    have e2 : (wl g n X).set r (gB g + r, .inl (gC g 1, len, .inl (upd (X r) j x.toInt16.toInt32))) = wl g n (lx_up X r j x.toInt16.toInt32) := by
      rw [← wl_set (X := X) (X' := lx_up X r j x.toInt16.toInt32) (k := r) (fun a ha => if_neg ha), cE_1 hly]
      simp [lx_up]
    rw [List.map_cons, List.map_cons, List.map_cons, e1]
    subst hi
    have hin : vp_in (nI j) len := vp_in_nI hj (by omega)
    refine W.sast C.1 C.2.1 (hW.2 r _ hat) ((C.2.2.2.2.2.2.2.1.1.2 1 _ rfl).1 len (fun j => .int (X r j))) (fun q => by cases q) (by show ¬ (nI j < 0 ∨ (arrV _ _ _).slots.size ≤ _); rw [arrV_size]; exact hin) rfl rfl hd fun H1 e z oq => ?_
    have hP' := hW.2.set (wl_D g n X) hat (e := .inl (gC g 1, len, .inl (upd (X r) j x.toInt16.toInt32))) (by
      show H1[gB g + r]? = some (vp_cell _ _)
      rw [e]
      rw [vp_cell_i, vp_cell_i, arrV_store]
      congr 2
      funext q
      rw [nI_clamp (by omega)]
      by_cases hq : q = j
      · subst hq
        simp [updV, upd, narrow]
      · simp [updV, upd, hq]) oq
    rw [e2] at hP'
    exact kk H1 _ hP' (hS.put z oq ((wl_D g n X).2 r _ hat)) z) k
theorem ev_aald {r len j q : Nat} {i : Int32} (hd : decode (mC M) pc = .ok (.aaload, 1)) (hr : r < n) (hly : LY r = (2, len) ∨ LY r = (3, len)) (hi : i = nI j) (hj : j < len) (hx : X r j = rE q) (hq : q < 100000) (k : EvQ g M R Qf Ps n0 n (pc + 1) L (.ref q :: st) X) : EvQ g M R Qf Ps n0 n pc L (.int i :: .ref r :: st) X :=
  ev_go (fun p e s m args below meth c C R Q cells slots H locs ls hW hS hl kk => by
    have hr2 : r < 226 := LY_lt (by rcases hly with h | h; (rw [h]; show 2 < 99; omega); (rw [h]; show 3 < 99; omega))
    have hl2 : len < 3000 := by rcases hly with h | h <;> exact LY_l h
    have hat := wl_at (g := g) (X := X) hr
    have e1 : pV g (.ref r) = .ref (gB g + r) := by show Value.ref (pA g r) = _; rw [pA_of hr2]
    have e3 : va_rf (rO g (X r j)) = pV g (.ref q) := by rw [rO_rD, hx, rD_rE hq]
    rw [List.map_cons, List.map_cons, e1]
    subst hi
    have hjc : (nI j).toNatClampNeg = j := nI_clamp (by omega)
    have hin : vp_in (nI j) len := vp_in_nI hj (by omega)
    rcases hly with hly | hly
    · rw [cE_2 hly] at hat
      exact W.aald (v := pV g (.ref q)) (ty := .array .int) C.1 C.2.1 (hW.2 r _ hat) ((C.2.2.2.2.2.2.2.1.1.2 2 _ rfl).1 len (fun j => va_rf (rO g (X r j)))) rfl (fun q => by cases q) (by show ¬ (nI j < 0 ∨ (arrV _ _ _).slots.size ≤ _); rw [arrV_size]; exact hin) (by show (arrV _ _ _).slots[_]? = _; rw [hjc, arrV_read _ _ hj, e3]) rfl rfl hd kk
    · rw [cE_3 hly] at hat
      exact W.aald (v := pV g (.ref q)) (ty := .array .short) C.1 C.2.1 (hW.2 r _ hat) ((C.2.2.2.2.2.2.2.1.1.2 3 _ rfl).1 len (fun j => va_rf (rO g (X r j)))) rfl (fun q => by cases q) (by show ¬ (nI j < 0 ∨ (arrV _ _ _).slots.size ≤ _); rw [arrV_size]; exact hin) (by show (arrV _ _ _).slots[_]? = _; rw [hjc, arrV_read _ _ hj, e3]) rfl rfl hd kk) k
theorem ev_alen {r t len : Nat} (hd : decode (mC M) pc = .ok (.arraylength, 1)) (hr : r < n) (hly : LY r = (t, len)) (ht : t < 4) (k : EvQ g M R Qf Ps n0 n (pc + 1) L (.int (nI len) :: st) X) : EvQ g M R Qf Ps n0 n pc L (.ref r :: st) X :=
  ev_go (fun p e s m args below meth c C R Q cells slots H locs ls hW hS hl kk => by
    have hr2 : r < 226 := LY_lt (by rw [hly]; show t < 99; omega)
    have hat := wl_at (g := g) (X := X) hr
    have e1 : pV g (.ref r) = .ref (gB g + r) := by show Value.ref (pA g r) = _; rw [pA_of hr2]
    rw [List.map_cons, e1]
    rcases (show t = 0 ∨ t = 1 ∨ t = 2 ∨ t = 3 by omega) with h | h | h | h <;> subst h
    · rw [cE_0 hly] at hat
      exact va_alen C.1 C.2.1 C.2.2.2.2.2.2.2.1.1 hW.2 r 0 hat rfl rfl hd kk
    · rw [cE_1 hly] at hat
      exact va_alen C.1 C.2.1 C.2.2.2.2.2.2.2.1.1 hW.2 r 1 hat rfl rfl hd kk
    · rw [cE_2 hly] at hat
      exact va_alen C.1 C.2.1 C.2.2.2.2.2.2.2.1.1 hW.2 r 2 hat rfl rfl hd kk
    · rw [cE_3 hly] at hat
      exact va_alen C.1 C.2.1 C.2.2.2.2.2.2.2.1.1 hW.2 r 3 hat rfl rfl hd kk) k
-- statics
theorem ev_gets1 {i : Nat} (hd : decode (mC M) pc = .ok (.getstatic i, 3)) (hw : Cond.fieldLink (mY M).cls i "java/lang/String" "COMPACT_STRINGS" "Z" ∈ GT) (k : EvQ g M R Qf Ps n0 n (pc + 3) L (.int 1 :: st) X) : EvQ g M R Qf Ps n0 n pc L st X :=
  ev_go (fun p e s m args below meth c C R Q cells slots H locs ls hW hS hl kk => va_gets (v := .int 1) C.1 C.2.1 C.2.2.2.2.2.2.2.1.2.2.2.2.1 hS C.2.2.2.2.2.1 (C.2.2.2.2.2.2.1 _ hw) (fun x hx => hx) hd kk) k
theorem ev_gets2 {i : Nat} (hd : decode (mC M) pc = .ok (.getstatic i, 3)) (hw : Cond.fieldLink (mY M).cls i "jdk/internal/util/Preconditions" "SIOOBE_FORMATTER" "Ljava/util/function/BiFunction;" ∈ GT) (k : EvQ g M R Qf Ps n0 n (pc + 3) L (.retAddr 0 :: st) X) : EvQ g M R Qf Ps n0 n pc L st X :=
  ev_go (fun p e s m args below meth c C R Q cells slots H locs ls hW hS hl kk => va_gets (v := gZ g) C.1 C.2.1 C.2.2.2.2.2.2.2.1.2.2.2.2.2.1 hS C.2.2.2.2.2.1 (C.2.2.2.2.2.2.1 _ hw) (fun x hx => hx) hd kk) k
end MEM
