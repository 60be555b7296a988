/-! THE LOGICAL MACHINE, 6: cells that stand for good (Sh), rows over them. -/
def Sh (n : Nat) (X : LX) : Prop := (∀ e ∈ sRl, e.1 < n → X e.1 e.2.1 = rE e.2.2) ∧ ∀ k j, k < n → ((LY k).1 = 2 ∨ (LY k).1 = 3) → j < (LY k).2 → X k j = rE (k + 1 + j)
theorem sRl_tag : ∀ e ∈ sRl, 4 ≤ (LY e.1).1 := by decide +kernel
theorem Sh.row {n k : Nat} {X : LX} {f : Nat → Int32} (h : Sh n X) (hk : (LY k).1 < 2) : Sh n (lx_row X k f) := by
  refine ⟨fun e he hn => ?_, fun a j ha ht hj => ?_⟩
  · have h4 := sRl_tag e he
    rw [lx_row_ne _ _ _ (fun q => by rw [q] at h4; omega)]
    exact h.1 e he hn
  · rw [lx_row_ne _ _ _ (fun q => by rw [q] at ht; omega)]
    exact h.2 a j ha ht hj
theorem Sh.upA {n k j : Nat} {X : LX} {v : Int32} (h : Sh n X) (hk : (LY k).1 < 2) : Sh n (lx_up X k j v) := by rw [lx_up_row]; exact h.row hk
theorem Sh.upF {n k j : Nat} {X : LX} {v : Int32} (h : Sh n X) (hk : 4 ≤ (LY k).1) (hs : ∀ e ∈ sRl, ¬ (e.1 = k ∧ e.2.1 = j)) : Sh n (lx_up X k j v) := by
  refine ⟨fun e he hn => ?_, fun a i ha ht hi => ?_⟩
  · show (if e.1 = k then upd (X e.1) j v else X e.1) e.2.1 = _
    by_cases q : e.1 = k
    · rw [if_pos q]
      have : ¬ e.2.1 = j := fun z => hs e he ⟨q, z⟩
      rw [show upd (X e.1) j v e.2.1 = X e.1 e.2.1 from if_neg this]
      exact h.1 e he hn
    · rw [if_neg q]
      exact h.1 e he hn
  · show (if a = k then upd (X a) j v else X a) i = _
    rw [if_neg (fun q => by rw [q] at ht; omega)]
    exact h.2 a i ha ht hi
def fOK (cls : String) (i ci j : Nat) : Prop := Cond.fieldLink cls i (cN ci) (cT ci j).2.1 (cT ci j).2.2.1 ∈ GT ∧ j < cNf ci ∧ ci < 13
theorem fOK_of {cls : String} {i ci j : Nat} {e : fE} (he : e ∈ fTl) (h1 : cN e.1 = cls) (h2 : e.2.1 = i) (h3 : e.2.2.1 = ci) (h4 : e.2.2.2.1 = j) (h5 : j < cNf ci) (h6 : ci < 13) : fOK cls i ci j := by
  have h := fTl_in he
  unfold fW at h
  rw [h1, h2, h3, h4] at h
  exact ⟨h, h5, h6⟩
section STAT
variable {g : GG} {M : Mt} {R : Room} {Qf : State → Array Value → List Frame → State → Prop} {Ps : State → Prop} {n0 n pc : Nat} {L : List (Option Value)} {st : List Value} {X : LX}
theorem ev_getK {r ci j i : Nat} (hd : decode (mC M) pc = .ok (.getfield i, 3)) (hf : fOK (mY M).cls i ci j) (hr : r < n) (hly : LY r = (4 + ci, cNf ci))
    (k : EvQ g M R Qf Ps n0 n (pc + 3) L (fL ci j (X r j) :: st) X) : EvQ g M R Qf Ps n0 n pc L (.ref r :: st) X :=
  ev_go (fun p e' s m args below meth c C R Q cells slots H locs ls hW hS hl kk => by
    obtain ⟨hw, hj, hci⟩ := hf
    have hr2 : r < 226 := LY_lt (by rw [hly]; show 4 + ci < 99; omega)
    have hat := wl_at (g := g) (X := X) hr
    rw [cE_o hly] at hat
    have e1 : pV g (.ref r) = .ref (gB g + r) := by show Value.ref (pA g r) = _; rw [pA_of hr2]
    rw [List.map_cons, e1]
    refine va_get (own := (mY M).cls) (ref := cN ci) (C := cN ci) (T := cT ci) (N := cNf ci) (ci := ci) C.1 C.2.1 C.2.2.2.2.2.2.1 (cl_in hci) C.2.2.2.2.2.1 C.2.2.2.2.2.2.2.1.1 hW.2 r hat (cl_13 hci) j hj (C.2.2.2.2.2.2.1 _ hw) (fun x hx => by rw [cl_dc ci hci j hj] at hx; exact hx) (fsV_at hj) hd kk) k
theorem ev_getI {r ci j i : Nat} (hd : decode (mC M) pc = .ok (.getfield i, 3)) (hf : fOK (mY M).cls i ci j) (hr : r < n) (hly : LY r = (4 + ci, cNf ci)) (hR : fR ci j = false)
    (k : EvQ g M R Qf Ps n0 n (pc + 3) L (.int (X r j) :: st) X) : EvQ g M R Qf Ps n0 n pc L (.ref r :: st) X :=
  ev_getK hd hf hr hly (by unfold fL; rw [hR, if_neg (by decide)]; exact k)
theorem ev_getS {r ci j i q : Nat} (hd : decode (mC M) pc = .ok (.getfield i, 3)) (hf : fOK (mY M).cls i ci j) (hr : r < n) (hly : LY r = (4 + ci, cNf ci)) (hR : fR ci j = true) (hx : X r j = rE q) (hq : q < 100000)
    (k : EvQ g M R Qf Ps n0 n (pc + 3) L (.ref q :: st) X) : EvQ g M R Qf Ps n0 n pc L (.ref r :: st) X :=
  ev_getK hd hf hr hly (by unfold fL; rw [hR, if_pos rfl, hx, rD_rE hq]; exact k)
theorem ev_getN {r ci j i : Nat} (hd : decode (mC M) pc = .ok (.getfield i, 3)) (hf : fOK (mY M).cls i ci j) (hr : r < n) (hly : LY r = (4 + ci, cNf ci)) (hR : fR ci j = true) (hx : X r j = 0)
    (k : EvQ g M R Qf Ps n0 n (pc + 3) L (.null :: st) X) : EvQ g M R Qf Ps n0 n pc L (.ref r :: st) X :=
  ev_getK hd hf hr hly (by unfold fL; rw [hR, if_pos rfl, hx]; exact k)
theorem ev_putY {r ci j i : Nat} {x : Int32} {v : Value} {ty : FieldType} (hd : decode (mC M) pc = .ok (.putfield i, 3)) (hf : fOK (mY M).cls i ci j) (hr : r < n) (hly : LY r = (4 + ci, cNf ci)) (hv : fL ci j x = v)
    (hty : cTy ci j = ty) (hn : narrow ty (fV g ci j x) = fV g ci j x) (hft : fits ty (fV g ci j x) = true) (hfin : (cT ci j).2.2.2 = false ∨ ((mY M).name = "<init>" ∧ cN ci = (mY M).cls))
    (k : EvQ g M R Qf Ps n0 n (pc + 3) L st (lx_up X r j x)) : EvQ g M R Qf Ps n0 n pc L (v :: .ref r :: st) X :=
  ev_wr (fun p e' s m args below meth c C R Q cells slots H locs ls hW hS hl kk => by
    obtain ⟨hw, hj, hci⟩ := hf
    subst hv
    have hr2 : r < 226 := LY_lt (by rw [hly]; show 4 + ci < 99; omega)
    have hat := wl_at (g := g) (X := X) hr
    rw [cE_o hly] at hat
    have e1 : pV g (.ref r) = .ref (gB g + r) := by show Value.ref (pA g r) = _; rw [pA_of hr2]
    have e2 : (wl g n X).set r (gB g + r, .inr (ci, (fsV g ci (cNf ci) (X r)).set j (fV g ci j x))) = wl g n (lx_up X r j x) := by
      rw [fsV_set, ← wl_set (X := X) (X' := lx_up X r j x) (k := r) (fun a ha => if_neg ha), cE_o hly]
      simp [lx_up]
    rw [List.map_cons, List.map_cons, e1]
    have hdt : parseFieldDescriptor (cT ci j).2.2.1 = some ty := by rw [cl_ty hci j hj, hty]
    have hap := va_apart (own := (mY M).cls) C.2.2.2.2.2.2.1 (cl_in hci) (cTy ci) (cl_ty hci) (cl_nm hci) C.2.2.2.2.2.2.2.1.1 (cl_13 hci)
    obtain ⟨rr, g1, cell, q1, q2, q3, q4⟩ := hW.2 r _ hat
    have hrr : rr = (cN ci, cT ci, cNf ci) := Option.some.inj (g1.symm.trans (cl_13 hci))
    subst hrr
    obtain ⟨hSl, hfc, kC, hkC, hkind⟩ := C.2.2.2.2.2.2.2.1.1.1 ci _ (cl_13 hci)
    obtain ⟨cf, kf, fi, f, hi, hsl⟩ := hSl j hj
    have hlay := C.2.2.2.2.2.2.1 _ (cl_in hci _ (u_in_lay hj))
    unfold u_lay at hlay
    have hst := (u_facts hfc hkC (u_lays C.2.2.2.2.2.2.1 (cl_in hci) hj) hi).1
    have hi2 : s.fieldFound? (cN ci) (cT ci j).2.1 (cT ci j).2.2.1 = some (cf, kf, fi, f) := by
      have := hi
      simp only [cl_dc ci hci j hj] at this
      exact this
    have fin : ∀ (H' : Heap) (lo : List Loc), H'[gB g + r]? = some (cell.setSlot ((gD g).2 ci j) (fV g ci j x)) → H'.size = H.size → (∀ q, q ≠ gB g + r → H'[q]? = H[q]?) → lo = locs ++ [⟨gB g + r, (gD g).2 ci j⟩] → W p (gL g) e' R s m args below meth c H' lo cells slots Q (F0 m (pc + 3) ls (st.map (pV g))) := by
      intro H' lo e1' e2' e3' hlo
      have hP' := hW.2.set (wl_D g n X) hat (e := .inr (ci, (fsV g ci (cNf ci) (X r)).set j (fV g ci j x))) ⟨_, cl_13 hci, t_OB.to (V := updV (vp_V (fsV g ci (cNf ci) (X r))) j (fV g ci j x)) ⟨_, e1', q2, q3, t_set q4 hap hj _⟩ (fun j' _ => vp_updV_set (by rw [fsV_len]; exact hj) _ j')⟩ e3'
      rw [e2] at hP'
      rw [hlo]
      exact kk H' _ hP' (hS.put e2' e3' ((wl_D g n X).2 r _ hat)) e2'
    by_cases hff : (cT ci j).2.2.2 = true
    · rw [if_pos hff] at hlay
      obtain ⟨hin, hcl⟩ : (mY M).name = "<init>" ∧ cN ci = (mY M).cls := by
        rcases hfin with h | h
        · rw [hff] at h; cases h
        · exact h
      have hcf : m.cls = cf := by
        obtain ⟨_, _, c', _, _, _, -, -, hf', -, -, -, hown2, -⟩ := Cond.laysFinal_spec hlay
        have e1 : c' = cf := by have := hi.symm.trans hf'; simp at this; exact this.1.symm
        have hown3 := hown2
        rw [cl_dc ci hci j hj, hcl] at hown3
        rw [← e1]; exact Option.some.inj (C.2.2.2.2.2.1.symm.trans hown3)
      have h6 := u_fits hfc hkC hkind (Or.inr hlay) hi hdt hn hft
      refine W.putFinK C.1 C.2.1 C.2.2.2.2.2.1 (C.2.2.2.2.2.2.1 _ hw) hi2 hst hcf (C.2.2.2.2.2.2.2.2 hin) (by rw [q2]; exact h6) q1 q3 (by rw [hsl]; exact k2_hasslot (q4 j hj)) rfl rfl hd fun H' e1' e2' e3' => ?_
      rw [hsl] at e1' ⊢
      exact fin H' _ e1' e2' e3' rfl
    · rw [if_neg hff] at hlay
      have h6 := u_store hfc hkC hkind hlay hi hdt hn hft
      refine W.putK C.1 C.2.1 (f := f) ⟨C.2.2.2.2.2.1, C.2.2.2.2.2.2.1 _ hw, ⟨_, _, _, hi2⟩, hst⟩ (by rw [q2]; exact h6) q1 q3 (by rw [hsl]; exact k2_hasslot (q4 j hj)) rfl rfl hd fun H' e1' e2' e3' => ?_
      rw [hsl] at e1' ⊢
      exact fin H' _ e1' e2' e3' rfl) k
theorem ev_putI {r ci j i : Nat} {x : Int32} (hd : decode (mC M) pc = .ok (.putfield i, 3)) (hf : fOK (mY M).cls i ci j) (hr : r < n) (hly : LY r = (4 + ci, cNf ci)) (hR : fR ci j = false) (hty : cTy ci j = .int) (hfin : (cT ci j).2.2.2 = false)
    (k : EvQ g M R Qf Ps n0 n (pc + 3) L st (lx_up X r j x)) : EvQ g M R Qf Ps n0 n pc L (.int x :: .ref r :: st) X := by
  have e : fV g ci j x = .int x := by unfold fV fL; rw [hR, if_neg (by decide)]; rfl
  exact ev_putY (ty := .int) hd hf hr hly (by unfold fL; rw [hR, if_neg (by decide)]) hty (by rw [e]; rfl) (by rw [e]; rfl) (Or.inl hfin) k
theorem ev_putZ {r ci j i : Nat} {x : Int32} (hd : decode (mC M) pc = .ok (.putfield i, 3)) (hf : fOK (mY M).cls i ci j) (hr : r < n) (hly : LY r = (4 + ci, cNf ci)) (hR : fR ci j = false) (hty : cTy ci j = .boolean) (hfin : (cT ci j).2.2.2 = false) (hx : x = 0 ∨ x = 1)
    (k : EvQ g M R Qf Ps n0 n (pc + 3) L st (lx_up X r j x)) : EvQ g M R Qf Ps n0 n pc L (.int x :: .ref r :: st) X := by
  have e : fV g ci j x = .int x := by unfold fV fL; rw [hR, if_neg (by decide)]; rfl
  exact ev_putY (ty := .boolean) hd hf hr hly (by unfold fL; rw [hR, if_neg (by decide)]) hty (by rw [e]; rcases hx with h | h <;> subst h <;> decide) (by rw [e]; rcases hx with h | h <;> subst h <;> decide) (Or.inl hfin) k
theorem ev_putR {r ci j i q : Nat} (hd : decode (mC M) pc = .ok (.putfield i, 3)) (hf : fOK (mY M).cls i ci j) (hr : r < n) (hly : LY r = (4 + ci, cNf ci)) (hR : fR ci j = true) (hty : (∃ C, cTy ci j = .object C) ∨ ∃ t, cTy ci j = .array t) (hfin : (cT ci j).2.2.2 = false ∨ ((mY M).name = "<init>" ∧ cN ci = (mY M).cls)) (hq : q < 100000)
    (k : EvQ g M R Qf Ps n0 n (pc + 3) L st (lx_up X r j (rE q))) : EvQ g M R Qf Ps n0 n pc L (.ref q :: .ref r :: st) X := by
  have e : fV g ci j (rE q) = .ref (pA g q) := by unfold fV fL; rw [hR, if_pos rfl, rD_rE hq]; rfl
  rcases hty with ⟨C, hty⟩ | ⟨t, hty⟩
  · exact ev_putY (ty := .object C) hd hf hr hly (by unfold fL; rw [hR, if_pos rfl, rD_rE hq]) hty (by rw [e]; rfl) (by rw [e]; rfl) hfin k
  · exact ev_putY (ty := .array t) hd hf hr hly (by unfold fL; rw [hR, if_pos rfl, rD_rE hq]) hty (by rw [e]; rfl) (by rw [e]; rfl) hfin k
end STAT
