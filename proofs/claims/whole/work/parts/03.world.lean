/-! THE LOGICAL MACHINE, 1: logical cells, their picture in the heap.
 X k j: what slot j of the logical cell k holds (ints as they are; a reference to the cell k is k + 1, null is 0).
 Cells 0 .. n - 1 lie at gB g + 0 .. in the heap; their kinds are the table LY. Texts are the logical cells 1000 + i, their bytes 2000 + i. -/
abbrev LX : Type := Nat → Nat → Int32
abbrev GG : Type := Launch × va_G × Nat × (Nat → ClassId) × (Nat → Nat) × Value
def gL (g : GG) : Launch := g.1
def gD (g : GG) : va_G := g.2.1
def gB (g : GG) : Nat := g.2.2.1
def gC (g : GG) : Nat → ClassId := g.2.2.2.1
def gS (g : GG) : Nat → Nat := g.2.2.2.2.1
def gZ (g : GG) : Value := g.2.2.2.2.2
def gA (g : GG) : Nat → Prop := fun q => gB g ≤ q
def pA (g : GG) (k : Nat) : Nat := if k < 1000 then gB g + k else gS g (k - 1000)
def pV (g : GG) : Value → Value
  | .ref k => .ref (pA g k)
  | .retAddr _ => gZ g
  | v => v
def rE (k : Nat) : Int32 := nI (k + 1)
def rD (x : Int32) : Value := if x = 0 then .null else .ref (x.toNatClampNeg - 1)
def rO (g : GG) (x : Int32) : Option Nat := if x = 0 then none else some (pA g (x.toNatClampNeg - 1))
theorem rO_rD (g : GG) (x : Int32) : va_rf (rO g x) = pV g (rD x) := by
  unfold rO rD
  by_cases h : x = 0
  · simp [h, va_rf, pV]
  · simp [h, va_rf, pV]
theorem rD_rE {k : Nat} (h : k < 100000) : rD (rE k) = .ref k := by
  unfold rD rE
  rw [if_neg (nI_ne0 (Nat.succ_pos k) (by omega)), nI_clamp (by omega)]
  rfl
def lx_up (X : LX) (k j : Nat) (v : Int32) : LX := fun a => if a = k then upd (X a) j v else X a
def lx_row (X : LX) (k : Nat) (f : Nat → Int32) : LX := fun a => if a = k then f else X a
theorem lx_up_row (X : LX) (k j : Nat) (v : Int32) : lx_up X k j v = lx_row X k (upd (X k) j v) := by
  funext a
  by_cases h : a = k
  · subst h; simp [lx_up, lx_row]
  · simp [lx_up, lx_row, h]
theorem lx_row_self (X : LX) (k : Nat) (f : Nat → Int32) : lx_row X k f k = f := if_pos rfl
theorem lx_row_ne (X : LX) (k : Nat) (f : Nat → Int32) {a : Nat} (h : a ≠ k) : lx_row X k f a = X a := if_neg h
/-- a field's value -/
def fL (c j : Nat) (x : Int32) : Value := if fR c j = true then rD x else .int x
def fV (g : GG) (c j : Nat) (x : Int32) : Value := pV g (fL c j x)
def fsV (g : GG) (c nf : Nat) (f : Nat → Int32) : List Value := (List.range nf).map (fun j => fV g c j (f j))
/-- a cell's picture -/
def cE (g : GG) (X : LX) (k : Nat) : va_E :=
  if (LY k).1 = 0 then .inl (gC g 0, (LY k).2, .inl (X k))
  else if (LY k).1 = 1 then .inl (gC g 1, (LY k).2, .inl (X k))
  else if (LY k).1 = 2 then .inl (gC g 2, (LY k).2, .inr (.inr (.inr (.inr (fun j => rO g (X k j))))))
  else if (LY k).1 = 3 then .inl (gC g 3, (LY k).2, .inr (.inr (.inr (.inr (fun j => rO g (X k j))))))
  else .inr ((LY k).1 - 4, fsV g ((LY k).1 - 4) (LY k).2 (X k))
theorem cE_0 {g : GG} {X : LX} {k len : Nat} (h : LY k = (0, len)) : cE g X k = .inl (gC g 0, len, .inl (X k)) := by simp [cE, h]
theorem cE_1 {g : GG} {X : LX} {k len : Nat} (h : LY k = (1, len)) : cE g X k = .inl (gC g 1, len, .inl (X k)) := by simp [cE, h]
theorem cE_2 {g : GG} {X : LX} {k len : Nat} (h : LY k = (2, len)) : cE g X k = .inl (gC g 2, len, .inr (.inr (.inr (.inr (fun j => rO g (X k j)))))) := by simp [cE, h]
theorem cE_3 {g : GG} {X : LX} {k len : Nat} (h : LY k = (3, len)) : cE g X k = .inl (gC g 3, len, .inr (.inr (.inr (.inr (fun j => rO g (X k j)))))) := by simp [cE, h]
theorem cE_o {g : GG} {X : LX} {k ci nf : Nat} (h : LY k = (4 + ci, nf)) : cE g X k = .inr (ci, fsV g ci nf (X k)) := by
  have e : 4 + ci - 4 = ci := by omega
  simp [cE, h, e, show ¬ 4 + ci = 0 by omega, show ¬ 4 + ci = 1 by omega, show ¬ 4 + ci = 2 by omega, show ¬ 4 + ci = 3 by omega]
theorem cE_cong {g : GG} {X X' : LX} {k : Nat} (h : X' k = X k) : cE g X' k = cE g X k := by simp [cE, h]
theorem fsV_at {g : GG} {c nf j : Nat} {f : Nat → Int32} (h : j < nf) : (fsV g c nf f)[j]? = some (fV g c j (f j)) := by simp [fsV, h]
theorem fsV_len {g : GG} {c nf : Nat} {f : Nat → Int32} : (fsV g c nf f).length = nf := by simp [fsV]
theorem fsV_set {g : GG} {c nf j : Nat} {f : Nat → Int32} {x : Int32} : (fsV g c nf f).set j (fV g c j x) = fsV g c nf (upd f j x) := by
  apply List.ext_getElem?
  intro i
  rw [List.getElem?_set]
  by_cases hi : i < nf
  · rw [fsV_len, fsV_at hi, fsV_at hi]
    by_cases h : j = i
    · subst h; simp [upd, hi]
    · simp [upd, h, Ne.symm h]
  · have h1 : (fsV g c nf f)[i]? = none := List.getElem?_eq_none (by rw [fsV_len]; omega)
    have h2 : (fsV g c nf (upd f j x))[i]? = none := List.getElem?_eq_none (by rw [fsV_len]; omega)
    rw [h1, h2, fsV_len]
    by_cases h : j = i
    · subst h; simp [hi]
    · simp [h]
/-- the world of the first n cells -/
def wl (g : GG) (n : Nat) (X : LX) : va_W := (List.range n).map (fun k => (gB g + k, cE g X k))
theorem wl_at {g : GG} {n k : Nat} {X : LX} (h : k < n) : (wl g n X)[k]? = some (gB g + k, cE g X k) := by simp [wl, h]
theorem wl_len {g : GG} {n : Nat} {X : LX} : (wl g n X).length = n := by simp [wl]
theorem wl_none {g : GG} {n k : Nat} {X : LX} (h : ¬ k < n) : (wl g n X)[k]? = none := List.getElem?_eq_none (by rw [wl_len]; omega)
theorem wl_D (g : GG) (n : Nat) (X : LX) : va_D (gA g) (wl g n X) := by
  have key : ∀ (k : Nat) (q : Nat × va_E), (wl g n X)[k]? = some q → q.1 = gB g + k := by
    intro k q hk
    by_cases h : k < n
    · rw [wl_at h] at hk; cases hk; rfl
    · rw [wl_none h] at hk; cases hk
  refine ⟨fun i j p q hi hj e => ?_, fun k q hk => ?_⟩
  · have h1 := key i p hi
    have h2 := key j q hj
    omega
  · show gB g ≤ q.1
    rw [key k q hk]; exact Nat.le_add_right _ _
theorem wl_set {g : GG} {n k : Nat} {X X' : LX} (hX : ∀ a, a ≠ k → X' a = X a) : (wl g n X).set k (gB g + k, cE g X' k) = wl g n X' := by
  apply List.ext_getElem?
  intro i
  rw [List.getElem?_set]
  by_cases hi : i < n
  · rw [wl_len, wl_at hi, wl_at hi]
    by_cases h : k = i
    · subst h; simp [hi]
    · simp only [h, if_false]
      rw [cE_cong (hX i (Ne.symm h))]
  · rw [wl_none hi, wl_none hi, wl_len]
    by_cases h : k = i
    · subst h; simp [hi]
    · simp [h]
def Wd (g : GG) (n : Nat) (X : LX) (H : Heap) : Prop := H.size = gB g + n ∧ va_P (gD g) vwCl (wl g n X) H
/-- what stands for good: classes, array classes, nest words, texts, statics -/
def gT (g : GG) : List (ClassId × FieldType) := [(gC g 0, .int), (gC g 1, .short), (gC g 2, .array .int), (gC g 3, .array .short)]
/-- an array class over array cells: its component's class -/
def kO (U : State) (c q : ClassId) (ty : FieldType) : Prop := ∃ k : Class, U.vm.classes[c]? = some k ∧ k.kind = .array q ty
theorem kO.moved {u U : State} (hvm : u.vm.Alike U.vm) {c q : ClassId} {ty : FieldType} (h : kO u c q ty) : kO U c q ty := by
  obtain ⟨k, h1, h2⟩ := h
  obtain ⟨k1, h3, he⟩ := hvm.2.2 _ _ h1
  exact ⟨k1, h3, by rw [he]; exact h2⟩
def EnU (g : GG) (U : State) (H : Heap) : Prop :=
  va_K (gD g) vwCl (gT g) U ∧ (∀ e ∈ nTl, va_Nw (nW e) U) ∧ (∀ e ∈ sTl, vk_R (cN e.1) e.2.1 (tXl.getD e.2.2.1 "") (gS g e.2.2.1) U) ∧
  vk_S 14 tLn tBy (gS g) (fun i => gS g (1000 + i)) (gA g) U H ∧ va_Z "java/lang/String" "COMPACT_STRINGS" "Z" (.int 1) (gA g) U H ∧
  va_Z "jdk/internal/util/Preconditions" "SIOOBE_FORMATTER" "Ljava/util/function/BiFunction;" (gZ g) (gA g) U H ∧ (gZ g = .null ∨ ∃ t, gZ g = .ref t) ∧ gB g ≤ H.size ∧ kO U (gC g 2) (gC g 0) (.array .int) ∧ kO U (gC g 3) (gC g 1) (.array .short)
theorem EnU.blind {g : GG} {U : State} {f : JFrame} {mk : MethodId} {a : Array Value} {H : Heap} (h : EnU g U H) : EnU g (U.calling f mk a) H := by
  obtain ⟨h1, h2, h3, h4, h5, h6, h7, h8, h9, h10⟩ := h
  exact ⟨va_K.moved (u := U) (U := U.calling f mk a) (Vm.Alike.refl U.vm) h1, fun e he => va_Nw.same rfl (u := U) (U := U.calling f mk a) rfl (h2 e he), fun e he => vk_R.same (u := U) (U := U.calling f mk a) rfl (h3 e he),
    vk_S.moved (u := U) (U := U.calling f mk a) (Vm.Alike.refl U.vm) h4, va_Z.moved (u := U) (U := U.calling f mk a) (Vm.Alike.refl U.vm) h5, va_Z.moved (u := U) (U := U.calling f mk a) (Vm.Alike.refl U.vm) h6, h7, h8, kO.moved (u := U) (U := U.calling f mk a) (Vm.Alike.refl U.vm) h9, kO.moved (u := U) (U := U.calling f mk a) (Vm.Alike.refl U.vm) h10⟩
theorem EnU.warm {g : GG} {s U : State} {H0 H : Heap} {locs : List Loc} (hW : s.WarmedH U.vm) (hS : va_S (gA g) H0 H locs) (h : EnU g s H0) : EnU g U H := by
  obtain ⟨h1, h2, h3, h4, h5, h6, h7, h8, h9, h10⟩ := h
  exact ⟨va_K.moved hW.alike h1, fun e he => (show va_Nw (.methodLinkNest e.1 e.2.1 e.2.2.1 RX11) U from va_Nw.warmM hW (h2 e he)), fun e he => vk_R.warm hW (h3 e he),
    (vk_S.moved hW.alike h4).kept hS.2.1, (va_Z.moved hW.alike h5).kept hS.2.1, (va_Z.moved hW.alike h6).kept hS.2.1, h7, Nat.le_trans h8 hS.1, kO.moved hW.alike h9, kO.moved hW.alike h10⟩
theorem pV_cat {g : GG} {U : State} {H : Heap} (hE : EnU g U H) {v : Value} (h : v.category = 1) : (pV g v).category = 1 := by
  cases v with
  | retAddr pc =>
    show (gZ g).category = 1
    rcases hE.2.2.2.2.2.2.1 with e | ⟨t, e⟩ <;> rw [e] <;> rfl
  | _ => first | exact h | rfl
