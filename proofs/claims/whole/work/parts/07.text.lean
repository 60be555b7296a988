/-! THE LOGICAL MACHINE, 5: System.arraycopy, Object's constructor, texts and their bytes. -/
theorem nn_clamp {z : Int32} (hz : ¬ z < 0) : z.toInt = (z.toNatClampNeg : Int) := by
  have hz0 : (0 : Int) ≤ z.toInt := by
    have := Int32.not_lt.mp hz
    simpa using Int32.le_iff_toInt_le.mp this
  show z.toInt = ((z.toInt.toNat : Nat) : Int)
  omega
section TEXT
variable {g : GG} {M : Mt} {R : Room} {Qf : State → Array Value → List Frame → State → Prop} {Ps : State → Prop} {n0 n pc : Nat} {L : List (Option Value)} {st : List Value} {X : LX}
/-- System.arraycopy between two int (t = 0) or two short arrays (t = 1) -/
theorem ev_acopy {r0 r1 l0 l1 t i : Nat} {a b c : Nat} {sp dp k0 : Int32} (ht : t = 0 ∨ t = 1) (hd : decode (mC M) pc = .ok (.invokestatic i, 3)) (hw1 : Cond.methodLink (mY M).cls i arraycopyName ∈ GT) (hw2 : Cond.native arraycopyName ∈ GT) (hw3 : Cond.static arraycopyName ∈ GT) (hw4 : Cond.initialized "java/lang/System" ∈ GT)
    (hr0 : r0 < n) (hr1 : r1 < n) (hy0 : LY r0 = (t, l0)) (hy1 : LY r1 = (t, l1)) (es : sp = nI a) (ed : dp = nI b) (ek : k0 = nI c) (h4 : a + c ≤ l0) (h5 : b + c ≤ l1) (hfit : t = 1 → ∀ j, j < c → fits .short (.int (X r0 (a + j))) = true) (hs8 : (st.map fun v => v.category).sum ≤ 8) (hd1 : 1 ≤ R.frames) (hd2 : 64 ≤ R.locals)
    (k : EvQ g M R Qf Ps n0 n (pc + 3) L st (lx_row X r1 (va_cpy (X r0) (X r1) a b c))) : EvQ g M R Qf Ps n0 n pc L (.int k0 :: .int dp :: .ref r1 :: .int sp :: .ref r0 :: st) X := by
  intro p e s m args below meth cd C hPs hle H locs ls hW hS hl T hT Y
  have hE := C.2.2.2.2.2.2.2.1
  have hl0 := LY_l hy0
  have hl1 := LY_l hy1
  have hr02 : r0 < 226 := LY_lt (by rw [hy0]; show t < 99; omega)
  have hr12 : r1 < 226 := LY_lt (by rw [hy1]; show t < 99; omega)
  have ty : FieldType := if t = 0 then .int else .short
  obtain ⟨ty, hty, hk, hat0, hat1⟩ : ∃ ty : FieldType, (ty = .int ∧ t = 0 ∨ ty = .short ∧ t = 1) ∧ (gT g)[t]? = some (gC g t, ty) ∧ (wl g n X)[r0]? = some (gB g + r0, .inl (gC g t, l0, .inl (X r0))) ∧ (wl g n X)[r1]? = some (gB g + r1, .inl (gC g t, l1, .inl (X r1))) := by
    rcases ht with h | h <;> subst h
    · exact ⟨.int, Or.inl ⟨rfl, rfl⟩, rfl, by rw [wl_at hr0, cE_0 hy0], by rw [wl_at hr1, cE_0 hy1]⟩
    · exact ⟨.short, Or.inr ⟨rfl, rfl⟩, rfl, by rw [wl_at hr0, cE_1 hy0], by rw [wl_at hr1, cE_1 hy1]⟩
  have hprim : refKind ty = false := by rcases hty with ⟨h, -⟩ | ⟨h, -⟩ <;> rw [h] <;> rfl
  have c1 : (nI a).toNatClampNeg = a := nI_clamp (by omega)
  have c2 : (nI b).toNatClampNeg = b := nI_clamp (by omega)
  have c3 : (nI c).toNatClampNeg = c := nI_clamp (by omega)
  have h1 : ¬ nI a < 0 := nI_pos (by omega)
  have h2 : ¬ nI b < 0 := nI_pos (by omega)
  have h3 : ¬ nI c < 0 := nI_pos (by omega)
  subst es; subst ed; subst ek
  have e0 : pV g (.ref r0) = .ref (gB g + r0) := by show Value.ref (pA g r0) = _; rw [pA_of hr02]
  have e1 : pV g (.ref r1) = .ref (gB g + r1) := by show Value.ref (pA g r1) = _; rw [pA_of hr12]
  have hc0 : H[gB g + r0]? = some (vp_cell (gC g t) (l0, .inl (X r0))) := hW.2 r0 _ hat0
  have hc1 : H[gB g + r1]? = some (vp_cell (gC g t) (l1, .inl (X r1))) := hW.2 r1 _ hat1
  obtain ⟨-, k0, hk0, cm0, hkk0⟩ := (hE.1.2 t _ hk).1 l0 (fun j => .int (X r0 j))
  obtain ⟨-, k1, hk1, cm1, hkk1⟩ := (hE.1.2 t _ hk).1 l1 (fun j => .int (X r1 j))
  have hfit2 : ∀ j, j < c → fits ty (.int (X r0 (a + j))) = true := by
    intro j hj
    rcases hty with ⟨h, -⟩ | ⟨h, h'⟩
    · rw [h]; rfl
    · rw [h]; exact hfit h' j hj
  rw [List.map_cons, List.map_cons, List.map_cons, List.map_cons, List.map_cons, e0, e1]
  obtain ⟨vm', X', step⟩ := Y.arraycopy C.1 C.2.2.2.2.2.1 (C.2.2.2.2.2.2.1 _ hw1) (C.2.2.2.2.2.2.1 _ hw2) (C.2.2.2.2.2.2.1 _ hw3) (C.2.2.2.2.2.2.1 _ hw4) (src := gB g + r0) (dst := gB g + r1) (cs := vp_cell (gC g t) (l0, .inl (X r0))) (cd := vp_cell (gC g t) (l1, .inl (X r1))) (srcPos := nI a) (destPos := nI b) (n := nI c) (by rw [hT]; exact hc0) (by rw [hT]; exact hc1)
    (fun _ h => by cases h) (fun _ h => by cases h) (fun h => by cases h) (fun h => by cases h) hk0 hk1 hkk0 hkk1 (by simp [hprim]) h1 h2 h3
    (by rw [nn_clamp h1, nn_clamp h3, c1, c3]; show ¬ _ > ((arrV (gC g t) l0 (fun j => .int (X r0 j))).slots.size : Int); rw [arrV_size]; omega)
    (by rw [nn_clamp h2, nn_clamp h3, c2, c3]; show ¬ _ > ((arrV (gC g t) l1 (fun j => .int (X r1 j))).slots.size : Int); rw [arrV_size]; omega)
    (fun vm₁ _ i hi => by
      rw [c3] at hi
      have e : (vp_cell (gC g t) (l0, .inl (X r0))).slots.getD ((nI a).toNatClampNeg + i) .null = .int (X r0 (a + i)) := by
        show (arrV (gC g t) l0 (fun j => .int (X r0 j))).slots.getD _ _ = _
        rw [c1, Array.getD_eq_getD_getElem?, arrV_read _ _ (by omega)]
        rfl
      refine ⟨?_, ?_⟩
      · rw [e]
        exact hfit2 i hi
      · rw [e]
        exact trivial)
    (g := F0 m pc ls (pV g (.int (nI c)) :: pV g (.int (nI b)) :: .ref (gB g + r1) :: pV g (.int (nI a)) :: .ref (gB g + r0) :: st.map (pV g))) rfl (hl.1.trans C.2.2.1.symm) (rest := st.map (pV g)) rfl (by rw [C.2.1]; exact hd) hd1 (by
      have hn : nativeFrameWords "java/lang/System" "arraycopy" 5 ≤ 40 := by decide +kernel
      have := pV_sum hE st
      show 2 * 0 + _ + _ ≤ R.locals
      omega)
  have e3 : copied (vp_cell (gC g t) (l0, .inl (X r0))) (vp_cell (gC g t) (l1, .inl (X r1))) (nI a) (nI b) (nI c) = vp_cell (gC g t) (l1, .inl (va_cpy (X r0) (X r1) a b c)) := by
    have h := va_copied (fun z => .int z) (gC g t) (gC g t) (n1 := l1) (dp := b) (X r0) (X r1) h4
    unfold copied
    rw [c1, c2, c3]
    exact h
  rw [e3] at X' step
  have hlt : gB g + r1 < H.size := (Array.getElem?_eq_some_iff.mp hc1).1
  have hheap : ((T.setVm vm').setCell (gB g + r1) (vp_cell (gC g t) (l1, .inl (va_cpy (X r0) (X r1) a b c)))).heap = H.setIfInBounds (gB g + r1) (vp_cell (gC g t) (l1, .inl (va_cpy (X r0) (X r1) a b c))) := by rw [← hT]; rfl
  have oq : ∀ q : Nat, q ≠ gB g + r1 → (H.setIfInBounds (gB g + r1) (vp_cell (gC g t) (l1, .inl (va_cpy (X r0) (X r1) a b c))))[q]? = H[q]? := fun q hq => by simp [Array.getElem?_setIfInBounds, Ne.symm hq]
  have hset : (wl g n X).set r1 (gB g + r1, .inl (gC g t, l1, .inl (va_cpy (X r0) (X r1) a b c))) = wl g n (lx_row X r1 (va_cpy (X r0) (X r1) a b c)) := by
    rw [← wl_set (X := X) (X' := lx_row X r1 (va_cpy (X r0) (X r1) a b c)) (k := r1) (fun a ha => lx_row_ne _ _ _ ha)]
    congr 2
    rcases ht with h | h <;> subst h
    · rw [cE_0 hy1, lx_row_self]
    · rw [cE_1 hy1, lx_row_self]
  have hP' := hW.2.set (wl_D g n X) hat1 (e := .inl (gC g t, l1, .inl (va_cpy (X r0) (X r1) a b c))) (show (H.setIfInBounds (gB g + r1) _)[gB g + r1]? = some _ by simp [Array.getElem?_setIfInBounds, hlt]) oq
  rw [hset] at hP'
  obtain ⟨t2, a1, b1⟩ := k p e s m args below meth cd C hPs hle _ _ ls ⟨by simp; exact hW.1, hP'⟩ ⟨by simp; exact hS.1, fun q g1 g2 => by
      rw [oq q (fun e => g2 (by rw [e]; exact Nat.le_add_right _ _))]
      exact hS.2.1 q g1 g2, fun q hq => by
      rcases List.mem_append.mp hq with h | h
      · exact hS.2.2 q h
      · obtain ⟨z, -, hz⟩ := List.mem_map.mp h
        rw [← hz]
        exact Nat.le_add_right _ _⟩ hl _ hheap X'
  exact ⟨t2, step t2 a1, b1⟩
theorem ev_objInit {i r : Nat} (hd : decode (mC M) pc = .ok (.invokespecial i, 3)) (hw1 : Cond.methodLink (mY M).cls i Lib.objectInit ∈ GT) (hw2 : Cond.instanceMethod Lib.objectInit ∈ GT) (hw3 : Cond.code Lib.objectInit ⟨#[0xb1]⟩ 1 none ∈ GT) (hd1 : 1 ≤ R.frames) (hd2 : 64 ≤ R.locals) (hs8 : (st.map fun v => v.category).sum ≤ 8)
    (k : EvQ g M R Qf Ps n0 n (pc + 3) L st X) : EvQ g M R Qf Ps n0 n pc L (.ref r :: st) X := by
  intro p e s m args below meth c C hPs hle H locs ls hW hS hl
  refine W.objInit C.1 C.2.1 C.2.2.2.2.2.1 (C.2.2.2.2.2.2.1 _ hw1) (C.2.2.2.2.2.2.1 _ hw2) (C.2.2.2.2.2.2.1 _ hw3) rfl (hl.1.trans C.2.2.1.symm) rfl hd hd1 ?_ (k p e s m args below meth c C hPs hle H locs ls hW hS hl)
  have := pV_sum C.2.2.2.2.2.2.2.1 st
  show 2 * 0 + ((st.map (pV g)).map fun v => v.category).sum + 12 ≤ R.locals
  omega
-- texts
theorem pA_t {i : Nat} (g : GG) : pV g (.ref (1000 + i)) = .ref (gS g i) := by
  show Value.ref (pA g (1000 + i)) = _
  unfold pA
  rw [if_neg (by omega), Nat.add_sub_cancel_left]
theorem pA_b {i : Nat} (g : GG) : pV g (.ref (2000 + i)) = .ref (gS g (1000 + i)) := by
  show Value.ref (pA g (2000 + i)) = _
  unfold pA
  rw [if_neg (by omega), show 2000 + i - 1000 = 1000 + i by omega]
theorem ev_txtV {i t : Nat} (hd : decode (mC M) pc = .ok (.getfield i, 3)) (hw : Cond.fieldLink (mY M).cls i "java/lang/String" "value" "[B" ∈ GT) (ht : t < 14) (k : EvQ g M R Qf Ps n0 n (pc + 3) L (.ref (2000 + t) :: st) X) : EvQ g M R Qf Ps n0 n pc L (.ref (1000 + t) :: st) X :=
  ev_go (fun p e s m args below meth c C R Q cells slots H locs ls hW hS hl kk => by
    rw [List.map_cons, pA_t]
    rw [List.map_cons, pA_b] at kk
    exact vk_getf C.1 C.2.1 (C.2.2.2.2.2.2.2.1.2.2.2.1.1 t ht).2.2.1 hS C.2.2.2.2.2.1 (C.2.2.2.2.2.2.1 _ hw) (fun x hx => hx) hd kk) k
theorem ev_txtC {i t : Nat} (hd : decode (mC M) pc = .ok (.getfield i, 3)) (hw : Cond.fieldLink (mY M).cls i "java/lang/String" "coder" "B" ∈ GT) (ht : t < 14) (k : EvQ g M R Qf Ps n0 n (pc + 3) L (.int 0 :: st) X) : EvQ g M R Qf Ps n0 n pc L (.ref (1000 + t) :: st) X :=
  ev_go (fun p e s m args below meth c C R Q cells slots H locs ls hW hS hl kk => by
    rw [List.map_cons, pA_t]
    exact vk_getf C.1 C.2.1 (C.2.2.2.2.2.2.2.1.2.2.2.1.1 t ht).2.1 hS C.2.2.2.2.2.1 (C.2.2.2.2.2.2.1 _ hw) (fun x hx => hx) hd kk) k
theorem ev_txtL {t : Nat} (hd : decode (mC M) pc = .ok (.arraylength, 1)) (ht : t < 14) (k : EvQ g M R Qf Ps n0 n (pc + 1) L (.int (nI (tLn.getD t 0)) :: st) X) : EvQ g M R Qf Ps n0 n pc L (.ref (2000 + t) :: st) X :=
  ev_go (fun p e s m args below meth c C R Q cells slots H locs ls hW hS hl kk => by
    rw [List.map_cons, pA_b]
    exact va_tlen C.1 C.2.1 (C.2.2.2.2.2.2.2.1.2.2.2.1.1 t ht).2.2.2 hS rfl hd kk) k
theorem ev_bald {t j : Nat} {i : Int32} (hd : decode (mC M) pc = .ok (.baload, 1)) (ht : t < 14) (hi : i = nI j) (hj : j < tLn.getD t 0) (hj2 : j < 3000) (k : EvQ g M R Qf Ps n0 n (pc + 1) L (.int ((tBy.getD t []).getD j 0) :: st) X) : EvQ g M R Qf Ps n0 n pc L (.int i :: .ref (2000 + t) :: st) X :=
  ev_go (fun p e s m args below meth c C R Q cells slots H locs ls hW hS hl kk => by
    rw [List.map_cons, List.map_cons, pA_b]
    subst hi
    have hc : (nI j).toNatClampNeg = j := nI_clamp (by omega)
    have hln : tLn.getD t 0 < 2 ^ 31 := by
      have : ∀ t, t < 14 → tLn.getD t 0 < 2 ^ 31 := by decide +kernel
      exact this t ht
    exact va_tb (v := .int ((tBy.getD t []).getD j 0)) C.1 C.2.1 (C.2.2.2.2.2.2.2.1.2.2.2.1.1 t ht).2.2.2 hS (vp_in_nI hj hln) (by rw [hc]) hd kk) k
end TEXT
