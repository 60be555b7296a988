/-! ALLOCATION, 2: new, newarray, new T[n][k] over logical cells. -/
theorem Wd.grow {g : GG} {n k : Nat} {X X' : LX} {H H1 : Heap} (h : Wd g n X H) (hX : ∀ a, a < n → X' a = X a) (hs : H1.size = H.size + k) (ho : ∀ q, q < H.size → H1[q]? = H[q]?) (hn : ∀ j, j < k → va_at (gD g) vwCl (gB g + (n + j), cE g X' (n + j)) H1) : Wd g (n + k) X' H1 := by
  refine ⟨by rw [hs, h.1]; omega, fun i q hi => ?_⟩
  by_cases hl : i < n + k
  · rw [wl_at hl] at hi
    cases hi
    rcases Nat.lt_or_ge i n with q | q
    · have hat := h.2 i _ (wl_at q)
      rw [cE_cong (hX i q)]
      exact hat.kept (ho _ (by rw [h.1]; show gB g + i < _; omega))
    · have h2 := hn (i - n) (by omega)
      rw [show n + (i - n) = i by omega] at h2
      exact h2
  · rw [wl_none hl] at hi; cases hi
theorem s_grow {A : Nat → Prop} {H0 H H1 : Heap} {locs : List Loc} (hS : va_S A H0 H locs) (hs : H.size ≤ H1.size) (ho : ∀ q, q < H.size → H1[q]? = H[q]?) : va_S A H0 H1 locs := ⟨Nat.le_trans hS.1 hs, fun x h1 h2 => (ho x (Nat.lt_of_lt_of_le h1 hS.1)).trans (hS.2.1 x h1 h2), hS.2.2⟩
theorem pV_new {g : GG} {n : Nat} {X : LX} {H : Heap} (h : Wd g n X H) (hn : n < 1000) : pV g (.ref n) = .ref H.size := by
  show Value.ref (pA g n) = _
  unfold pA
  rw [if_pos hn, h.1]
def lx_grid (X : LX) (n N : Nat) : LX := fun a => if a = n then (fun t => if t < N then rE (n + 1 + t) else 0) else if n < a ∧ a < n + 1 + N then (fun _ => 0) else X a
section ALLOC
variable {g : GG} {M : Mt} {R : Room} {Qf : State → Array Value → List Frame → State → Prop} {Ps : State → Prop} {n0 n pc : Nat} {L : List (Option Value)} {st : List Value} {X : LX}
theorem ev_newi {N : Nat} {i : Int32} (hd : decode (mC M) pc = .ok (.newarray .int, 2)) (hi : i = nI N) (hN : N ≤ 100000) (hly : LY n = (0, N)) (hn : n < 1000) (hw : Cond.arrayClass .int ∈ GT) (hc : n - n0 + 1 ≤ R.cells) (hs : sS n - sS n0 + N ≤ R.slots)
    (k : EvQ g M R Qf Ps n0 (n + 1) (pc + 2) L (.ref n :: st) (lx_row X n (fun _ => 0))) : EvQ g M R Qf Ps n0 n pc L (.int i :: st) X := by
  intro p e s m args below meth c C hPs hle H locs ls hW hS hl
  subst hi
  refine va_newaK (atype := .int) (g := F0 m pc ls (.int (nI N) :: st.map (pV g))) (n := nI N) (N := N) C.1 C.2.1 (C.2.2.2.2.2.2.1 _ hw) rfl hd rfl (by rw [Int32.lt_iff_toInt_lt, nI_toInt (by omega)]; show ¬ (N : Int) < 0; omega) (nI_clamp (by omega)) (by show N * 4 ≤ _; omega) hc hs rfl (fun H1 cA e1 z1 o1 hAr hNm => ?_)
  have hR : s.vm.findClass ("[" ++ (FieldType.int).toString) = some (gC g 0) := (C.2.2.2.2.2.2.2.1.1.2 0 _ rfl).2
  cases hR.symm.trans hNm
  have hk := k p e s m args below meth c C hPs (by omega) H1 locs ls (Wd.grow (k := 1) hW (fun a ha => lx_row_ne _ _ _ (Nat.ne_of_lt ha)) z1 o1 (fun j hj => by
    rw [show n + j = n by omega, cE_0 hly, lx_row_self]
    show H1[gB g + n]? = some (vp_cell _ _)
    rw [← hW.1, e1, vp_cell_i]; rfl)) (s_grow hS (by omega) o1) hl
  have hm := sS_mono hle
  rw [show n + 1 - n0 = n - n0 + 1 by omega, show sS (n + 1) - sS n0 = sS n - sS n0 + N by show sS n + (LY n).2 - sS n0 = _; rw [hly]; show sS n + N - sS n0 = _; omega, List.map_cons, pV_new hW hn] at hk
  exact hk
theorem ev_new {N ci index : Nat} {C0 : String} {T0 : u_T} (ty : Nat → FieldType) (hd : decode (mC M) pc = .ok (.new index, 3)) (hly : LY n = (4 + ci, N)) (hn : n < 1000) (hcl : vwCl[ci]? = some (C0, T0, N)) (hin : ∀ w ∈ u_ws C0 T0 N, w ∈ GT) (hty : ∀ k, k < N → parseFieldDescriptor (T0 k).2.2.1 = some (ty k)) (h0 : ∀ j, j < N → defaultValue (ty j) = fL ci j 0)
    (w1 : Cond.classLink (mY M).cls index C0 ∈ GT) (w2 : Cond.instantiable C0 N ∈ GT) (w3 : Cond.initialized C0 ∈ GT) (hc : n - n0 + 1 ≤ R.cells) (hs : sS n - sS n0 + N ≤ R.slots)
    (k : EvQ g M R Qf Ps n0 (n + 1) (pc + 3) L (.ref n :: st) (lx_row X n (fun _ => 0))) : EvQ g M R Qf Ps n0 n pc L st X := by
  intro p e s m args below meth c C hPs hle H locs ls hW hS hl
  have hKn := C.2.2.2.2.2.2.2.1.1.1 ci _ hcl
  refine W.newcK (g := F0 m pc ls (st.map (pV g))) C.1 C.2.1 C.2.2.2.2.2.1 (C.2.2.2.2.2.2.1 _ w1) (C.2.2.2.2.2.2.1 _ w2) (C.2.2.2.2.2.2.1 _ w3) rfl hd hc hs hKn.2.1 rfl (fun H1 kC hkC e1 z1 o1 => ?_)
  have hk := k p e s m args below meth c C hPs (by omega) H1 locs ls (Wd.grow (k := 1) hW (fun a ha => lx_row_ne _ _ _ (Nat.ne_of_lt ha)) z1 o1 (fun j hj => by
    rw [show n + j = n by omega, cE_o hly, lx_row_self]
    rw [hW.1] at e1
    refine ⟨_, hcl, (u_born ty C.2.2.2.2.2.2.1 hin hKn hkC e1 hty).to (fun q hq => ?_)⟩
    rw [h0 q hq]
    show _ = (fsV g ci N (fun _ => 0)).getD q .null
    rw [List.getD_eq_getElem?_getD, fsV_at hq]
    show _ = pV g (fL ci q 0)
    unfold fL
    split
    · rfl
    · rfl)) (s_grow hS (by omega) o1) hl
  have hm := sS_mono hle
  rw [show n + 1 - n0 = n - n0 + 1 by omega, show sS (n + 1) - sS n0 = sS n - sS n0 + N by show sS n + (LY n).2 - sS n0 = _; rw [hly]; show sS n + N - sS n0 = _; omega, List.map_cons, pV_new hW hn] at hk
  exact hk
theorem gr_out {N : Nat} {H : Heap} (hW : Wd g n X H) (hn : n + 1 + N < 1000) (cA : ClassId) : arrV cA N (gf H.size N) = arrV cA N (fun j => va_rf (rO g (lx_grid X n N n j))) := by
  refine congrArg (arrV cA N) (funext fun j => ?_)
  show gf H.size N j = va_rf (rO g (if n = n then (fun t => if t < N then rE (n + 1 + t) else 0) else _) )
  sorry
end ALLOC
