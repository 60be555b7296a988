/-! ALLOCATION, 2: new, newarray, new T[n][k] over logical cells. -/
theorem Wd.grow {g : GG} {n k : Nat} {X X' : LX} {H H1 : Heap} (h : Wd g n X H) (hX : ∀ a, a < n → X' a = X a) (hs : H1.size = H.size + k) (ho : ∀ q, q < H.size → H1[q]? = H[q]?) (hn : ∀ j, j < k → va_at (gD g) vwCl (gB g + (n + j), cE g X' (n + j)) H1) : Wd g (n + k) X' H1 := by
  refine ⟨by rw [hs, h.1]; omega, fun i q hi => ?_⟩
  by_cases hl : i < n + k
  · rw [wl_at hl] at hi
    cases hi
    rcases Nat.lt_or_ge i n with q | q
    · have hat := h.2 i _ (wl_at q)
      rw [cE_cong (hX i q)]
      exact hat.kept (ho _ (by rw [h.1]; show gB g + i < _; omega))
    · have h2 := hn (i - n) (by omega)
      rw [show n + (i - n) = i by omega] at h2
      exact h2
  · rw [wl_none hl] at hi; cases hi
theorem s_grow {A : Nat → Prop} {H0 H H1 : Heap} {locs : List Loc} (hS : va_S A H0 H locs) (hs : H.size ≤ H1.size) (ho : ∀ q, q < H.size → H1[q]? = H[q]?) : va_S A H0 H1 locs := ⟨Nat.le_trans hS.1 hs, fun x h1 h2 => (ho x (Nat.lt_of_lt_of_le h1 hS.1)).trans (hS.2.1 x h1 h2), hS.2.2⟩
theorem pV_new {g : GG} {n : Nat} {X : LX} {H : Heap} (h : Wd g n X H) (hn : n < 1000) : pV g (.ref n) = .ref H.size := by
  show Value.ref (pA g n) = _
  unfold pA
  rw [if_pos hn, h.1]
def lx_grid (X : LX) (n N : Nat) : LX := fun a => if a = n then (fun t => if t < N then rE (n + 1 + t) else 0) else if n < a ∧ a < n + 1 + N then (fun _ => 0) else X a
section ALLOC
variable {g : GG} {M : Mt} {R : Room} {Qf : State → Array Value → List Frame → State → Prop} {Ps : State → Prop} {n0 n pc : Nat} {L : List (Option Value)} {st : List Value} {X : LX}
theorem ev_newi {N : Nat} {i : Int32} (hd : decode (mC M) pc = .ok (.newarray .int, 2)) (hi : i = nI N) (hN : N ≤ 100000) (hly : LY n = (0, N)) (hn : n < 1000) (hw : Cond.arrayClass .int ∈ GT) (hc : n - n0 + 1 ≤ R.cells) (hs : sS n - sS n0 + N ≤ R.slots)
    (k : EvQ g M R Qf Ps n0 (n + 1) (pc + 2) L (.ref n :: st) (lx_row X n (fun _ => 0))) : EvQ g M R Qf Ps n0 n pc L (.int i :: st) X := by
  intro p e s m args below meth c C hPs hle H locs ls hW hS hl
  subst hi
  refine va_newaK (atype := .int) (g := F0 m pc ls (.int (nI N) :: st.map (pV g))) (n := nI N) (N := N) C.1 C.2.1 (C.2.2.2.2.2.2.1 _ hw) rfl hd rfl (by rw [Int32.lt_iff_toInt_lt, nI_toInt (by omega)]; show ¬ (N : Int) < 0; omega) (nI_clamp (by omega)) (by show N * 4 ≤ _; omega) hc hs rfl (fun H1 cA e1 z1 o1 hAr hNm => ?_)
  have hR : s.vm.findClass ("[" ++ (FieldType.int).toString) = some (gC g 0) := (C.2.2.2.2.2.2.2.1.1.2 0 _ rfl).2
  cases hR.symm.trans hNm
  have hk := k p e s m args below meth c C hPs (by omega) H1 locs ls (Wd.grow (k := 1) hW (fun a ha => lx_row_ne _ _ _ (Nat.ne_of_lt ha)) z1 o1 (fun j hj => by
    rw [show n + j = n by omega, cE_0 hly, lx_row_self]
    show H1[gB g + n]? = some (vp_cell _ _)
    rw [← hW.1, e1, vp_cell_i]; rfl)) (s_grow hS (by omega) o1) hl
  have hm := sS_mono hle
  rw [show n + 1 - n0 = n - n0 + 1 by omega, show sS (n + 1) - sS n0 = sS n - sS n0 + N by show sS n + (LY n).2 - sS n0 = _; rw [hly]; show sS n + N - sS n0 = _; omega, List.map_cons, pV_new hW hn] at hk
  exact hk
theorem ev_new {N ci index : Nat} {C0 : String} {T0 : u_T} (ty : Nat → FieldType) (hd : decode (mC M) pc = .ok (.new index, 3)) (hly : LY n = (4 + ci, N)) (hn : n < 1000) (hcl : vwCl[ci]? = some (C0, T0, N)) (hin : ∀ w ∈ u_ws C0 T0 N, w ∈ GT) (hty : ∀ k, k < N → parseFieldDescriptor (T0 k).2.2.1 = some (ty k)) (h0 : ∀ j, j < N → defaultValue (ty j) = fL ci j 0)
    (w1 : Cond.classLink (mY M).cls index C0 ∈ GT) (w2 : Cond.instantiable C0 N ∈ GT) (w3 : Cond.initialized C0 ∈ GT) (hc : n - n0 + 1 ≤ R.cells) (hs : sS n - sS n0 + N ≤ R.slots)
    (k : EvQ g M R Qf Ps n0 (n + 1) (pc + 3) L (.ref n :: st) (lx_row X n (fun _ => 0))) : EvQ g M R Qf Ps n0 n pc L st X := by
  intro p e s m args below meth c C hPs hle H locs ls hW hS hl
  have hKn := C.2.2.2.2.2.2.2.1.1.1 ci _ hcl
  refine W.newcK (g := F0 m pc ls (st.map (pV g))) C.1 C.2.1 C.2.2.2.2.2.1 (C.2.2.2.2.2.2.1 _ w1) (C.2.2.2.2.2.2.1 _ w2) (C.2.2.2.2.2.2.1 _ w3) rfl hd hc hs hKn.2.1 rfl (fun H1 kC hkC e1 z1 o1 => ?_)
  have hk := k p e s m args below meth c C hPs (by omega) H1 locs ls (Wd.grow (k := 1) hW (fun a ha => lx_row_ne _ _ _ (Nat.ne_of_lt ha)) z1 o1 (fun j hj => by
    rw [show n + j = n by omega, cE_o hly, lx_row_self]
    rw [hW.1] at e1
    refine ⟨_, hcl, (u_born ty C.2.2.2.2.2.2.1 hin hKn hkC e1 hty).to (fun q hq => ?_)⟩
    rw [h0 q hq]
    show _ = (fsV g ci N (fun _ => 0)).getD q .null
    rw [List.getD_eq_getElem?_getD, fsV_at hq]
    show _ = pV g (fL ci q 0)
    unfold fL
    split
    · rfl
    · rfl)) (s_grow hS (by omega) o1) hl
  have hm := sS_mono hle
  rw [show n + 1 - n0 = n - n0 + 1 by omega, show sS (n + 1) - sS n0 = sS n - sS n0 + N by show sS n + (LY n).2 - sS n0 = _; rw [hly]; show sS n + N - sS n0 = _; omega, List.map_cons, pV_new hW hn] at hk
  exact hk
theorem gr_out {N : Nat} {H : Heap} (hW : Wd g n X H) (hn : n + 1 + N < 1000) (cA : ClassId) : arrV cA N (gf H.size N) = arrV cA N (fun j => va_rf (rO g (lx_grid X n N n j))) := by
  refine congrArg (arrV cA N) (funext fun j => ?_)
  have e : lx_grid X n N n j = if j < N then rE (n + 1 + j) else 0 := by unfold lx_grid; rw [if_pos rfl]
  rw [e]
  unfold gf
  by_cases h : j < N
  · rw [if_pos h, if_pos h, rO_rD, rD_rE (by omega)]
    show Value.ref _ = Value.ref (pA g (n + 1 + j))
    unfold pA
    rw [if_pos (by omega), hW.1, show gB g + n + 1 + j = gB g + (n + 1 + j) by omega]
  · rw [if_neg h, if_neg h]
    rfl
theorem ev_grid {N K t0 : Nat} {i j : Int32} {index : Nat} {nm : String} {ty : FieldType} (hd : decode (mC M) pc = .ok (.multianewarray index 2, 4)) (hi : i = nI N) (hj : j = nI K) (hN : N ≤ 100000) (hK : K ≤ 100000) (ht : (t0 = 0 ∧ ty = .int ∧ nm = "[[I") ∨ (t0 = 1 ∧ ty = .short ∧ nm = "[[S")) (hly : LY n = (2 + t0, N)) (hrow : ∀ t, t < N → LY (n + 1 + t) = (t0, K)) (hn : n + 1 + N < 1000)
    (w1 : Cond.classLink (mY M).cls index nm ∈ GT) (hsum : sS (n + 1 + N) = sS n + (N + N * K)) (hc : n - n0 + (1 + N) ≤ R.cells) (hs : sS n - sS n0 + (N + N * K) ≤ R.slots)
    (k : EvQ g M R Qf Ps n0 (n + 1 + N) (pc + 4) L (.ref n :: st) (lx_grid X n N)) : EvQ g M R Qf Ps n0 n pc L (.int j :: .int i :: st) X := by
  intro p e s m args below meth c C hPs hle H locs ls hW hS hl
  subst hi
  subst hj
  have hneg : ∀ q, q ≤ 100000 → ¬ nI q < 0 := fun q hq => by rw [Int32.lt_iff_toInt_lt, nI_toInt (by omega)]; show ¬ (q : Int) < 0; omega
  have hEn := C.2.2.2.2.2.2.2.1
  have key : ∃ (kA kC : Class) (cz : ClassId), s.vm.findClass nm = some (gC g (2 + t0)) ∧ s.vm.classes[gC g (2 + t0)]? = some kA ∧ kA.kind = .array (gC g t0) (.array ty) ∧ s.vm.classes[gC g t0]? = some kC ∧ kC.kind = .array cz ty := by
    rcases ht with ⟨rfl, rfl, rfl⟩ | ⟨rfl, rfl, rfl⟩
    · obtain ⟨kA, a1, a2⟩ := hEn.2.2.2.2.2.2.2.2.1
      obtain ⟨-, kC, b1, cz, b2⟩ := (hEn.1.2 0 _ rfl).1 0 (fun _ => .null)
      exact ⟨kA, kC, cz, (hEn.1.2 2 _ rfl).2, a1, a2, b1, b2⟩
    · obtain ⟨kA, a1, a2⟩ := hEn.2.2.2.2.2.2.2.2.2
      obtain ⟨-, kC, b1, cz, b2⟩ := (hEn.1.2 1 _ rfl).1 0 (fun _ => .null)
      exact ⟨kA, kC, cz, (hEn.1.2 3 _ rfl).2, a1, a2, b1, b2⟩
  obtain ⟨kA, kC, cz, e1, e2, e3, e4, e5⟩ := key
  have hdv : defaultValue ty = .int 0 := by rcases ht with ⟨-, rfl, -⟩ | ⟨-, rfl, -⟩ <;> rfl
  have hcb : componentBytes ty ≤ 4 := by rcases ht with ⟨-, rfl, -⟩ | ⟨-, rfl, -⟩ <;> decide
  refine w_grid C.1 C.2.1 C.2.2.2.2.2.1 (C.2.2.2.2.2.2.1 _ w1) e1 e2 e3 e4 e5 (hneg N hN) (hneg K hK) (nI_clamp (by omega)) (nI_clamp (by omega)) (by omega) (Nat.le_trans (Nat.mul_le_mul_left K hcb) (by omega)) (by omega) (by rcases ht with ⟨-, rfl, -⟩ | ⟨-, rfl, -⟩ <;> rfl) hc hs hd (fun H1 z1 o1 r1 q1 => ?_)
  have hk := k p e s m args below meth c C hPs (by omega) H1 locs ls (by
    rw [show n + 1 + N = n + (1 + N) by omega]
    refine Wd.grow (k := 1 + N) hW (fun a ha => ?_) (by omega) q1 (fun a ha => ?_)
    · unfold lx_grid
      rw [if_neg (Nat.ne_of_lt ha), if_neg (by omega)]
    · rcases Nat.eq_zero_or_pos a with rfl | hpos
      · have hat : cE g (lx_grid X n N) n = .inl (gC g (2 + t0), N, .inr (.inr (.inr (.inr (fun j => rO g (lx_grid X n N n j)))))) := by
          rcases ht with ⟨rfl, -, -⟩ | ⟨rfl, -, -⟩
          · exact cE_2 hly
          · exact cE_3 hly
        rw [Nat.add_zero, hat]
        show H1[gB g + n]? = some (vp_cell _ _)
        rw [vp_cell_q, ← gr_out hW hn, ← hW.1]
        exact o1
      · have hat : cE g (lx_grid X n N) (n + a) = .inl (gC g t0, K, .inl (fun _ => 0)) := by
          have er : lx_grid X n N (n + a) = fun _ => 0 := by
            unfold lx_grid
            rw [if_neg (by omega), if_pos (by omega)]
          have hr := hrow (a - 1) (by omega)
          rw [show n + 1 + (a - 1) = n + a by omega] at hr
          rcases ht with ⟨rfl, -, -⟩ | ⟨rfl, -, -⟩
          · rw [cE_0 hr, er]
          · rw [cE_1 hr, er]
        rw [hat]
        show H1[gB g + (n + a)]? = some (vp_cell _ _)
        have hr := r1 (a - 1) (by omega)
        rw [hW.1, show gB g + n + 1 + (a - 1) = gB g + (n + a) by omega, hdv] at hr
        rw [hr, vp_cell_i]) (s_grow hS (by omega) q1) hl
  have hm := sS_mono hle
  rw [show n + 1 + N - n0 = n - n0 + 1 + N by omega, show sS (n + 1 + N) - sS n0 = sS n - sS n0 + N + N * K by rw [hsum]; omega, List.map_cons, pV_new hW (by omega)] at hk
  exact hk
end ALLOC
