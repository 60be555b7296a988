/-! THE LOGICAL MACHINE, 2: a method's run over logical cells, as a judgement (Ev), a method's contract (Ex), rows of one instruction. -/
def mW (M : Mt) : List Cond := Cond.code (mY M) (mC M) (mL M) (mR M) :: GT
def Rm (d mc ms : Nat) : Room := { frames := d, cells := mc, slots := ms, locals := 64 * d }
/-- slots of the first n cells -/
def sS : Nat → Nat
  | 0 => 0
  | n + 1 => sS n + (LY n).2
theorem sS_mono {a b : Nat} (h : a ≤ b) : sS a ≤ sS b := by
  induction h with
  | refl => exact Nat.le_refl _
  | step _ ih => exact Nat.le_trans ih (Nat.le_add_right _ _)
def LV (g : GG) (ls : Array Slot) (nL : Nat) (L : List (Option Value)) : Prop := ls.size = nL ∧ lv_wf ls ∧ ∀ (i : Nat) (v : Value), L[i]? = some (some v) → (pV g v).category = 1 ∧ ls[i]? = some (.val (pV g v))
def Cx (g : GG) (M : Mt) (p : Program) (s : State) (m : MethodId) (args : Array Value) (meth : Method) (c : Code) : Prop :=
  p.tables.exec = Jvm.exec ∧ c.code = mC M ∧ c.maxLocals = mL M ∧ meth.sig.returnType = mR M ∧ meth.locks = false ∧ s.vm.findClass (mY M).cls = some m.cls ∧ (∀ w ∈ GT, w.before args s = true) ∧ EnU g s s.heap ∧ ((mY M).name = "<init>" → meth.name = "<init>")
def Qp (g : GG) (nf : Nat) (post : Option Value → LX → Prop) : Array Value → State → Outcome → State → Prop := fun _ st oc t => (∃ (v : Option Value) (X : LX), oc = .returned (v.map (pV g)) ∧ post v X ∧ Wd g nf X t.heap) ∧ va_F (gA g) st t
/-- a run of a method from a place on, to an end Qf: n cells stand; it began with n0 -/
def EvQ (g : GG) (M : Mt) (R : Room) (Qf : State → Array Value → List Frame → State → Prop) (Ps : State → Prop) (n0 n : Nat) (pc : Nat) (L : List (Option Value)) (st : List Value) (X : LX) : Prop :=
  ∀ (p : Program) (e : Env) (s : State) (m : MethodId) (args : Array Value) (below : List Frame) (meth : Method) (c : Code), Cx g M p s m args meth c → Ps s → n0 ≤ n →
  ∀ (H : Heap) (locs : List Loc) (ls : Array Slot), Wd g n X H → va_S (gA g) s.heap H locs → LV g ls (mL M) L →
  W p (gL g) e R s m args below meth c H locs (n - n0) (sS n - sS n0) (Qf s args below) (F0 m pc ls (st.map (pV g)))
/-- to its return, with nf cells -/
abbrev Ev (g : GG) (M : Mt) (d n0 nf : Nat) (post : Option Value → LX → Prop) (n : Nat) (pc : Nat) (L : List (Option Value)) (st : List Value) (X : LX) : Prop :=
  EvQ g M (Rm d (nf - n0) (sS nf - sS n0)) (fun s args below => MQ below (Qp g nf post) args s (nf - n0) (sS nf - sS n0) (gA g)) (fun _ => True) n0 n pc L st X
/-- a method's contract: from these arguments and n0 cells of X it returns, with nf cells -/
def Ex (g : GG) (M : Mt) (d n0 nf : Nat) (av : List Value) (X : LX) (post : Option Value → LX → Prop) : Prop :=
  Met (gL g) (mY M) (mW M) (Rm d (nf - n0) (sS nf - sS n0)) (va_Pc (av.map (pV g)) (fun U => EnU g U U.heap ∧ Wd g n0 X U.heap)) (Qp g nf post) (nf - n0) (sS nf - sS n0) (gA g)
theorem asc_mem (g : GG) (L : List (Option Value)) : ∃ l : List (Nat × Value), ∀ q : Nat × Value, q ∈ l ↔ ∃ v, L[q.1]? = some (some v) ∧ q.2 = pV g v := by
  refine ⟨(List.range L.length).filterMap (fun i => (L[i]?).join.map (fun v => (i, pV g v))), fun q => ?_⟩
  rw [List.mem_filterMap]
  constructor
  · rintro ⟨i, -, hi⟩
    cases hj : L[i]? with
    | none => rw [hj] at hi; cases hi
    | some o =>
      cases o with
      | none => rw [hj] at hi; cases hi
      | some v => rw [hj] at hi; cases hi; exact ⟨v, hj, rfl⟩
  · rintro ⟨v, hv, hq⟩
    refine ⟨q.1, List.mem_range.mpr (List.getElem?_eq_some_iff.mp hv).1, ?_⟩
    rw [hv]
    show some (q.1, pV g v) = some q
    rw [← hq]
theorem LV.has {g : GG} {ls : Array Slot} {nL : Nat} {L : List (Option Value)} (h : LV g ls nL L) : ∃ l : List (Nat × Value), lv_has ls nL l ∧ ∀ q : Nat × Value, q ∈ l ↔ ∃ v, L[q.1]? = some (some v) ∧ q.2 = pV g v := by
  obtain ⟨l, hl⟩ := asc_mem g L
  refine ⟨l, ⟨h.1, h.2.1, fun q hq => ?_⟩, hl⟩
  obtain ⟨v, hv, e⟩ := (hl q).mp hq
  rw [e]
  exact (h.2.2 q.1 v hv).2
theorem LV.set {g : GG} {ls : Array Slot} {nL i : Nat} {L : List (Option Value)} {v : Value} (h : LV g ls nL L) (hi : i < nL) (hc : (pV g v).category = 1) : ∃ ls', storeLocals ls i (pV g v) = some ls' ∧ LV g ls' nL (L.set i (some v)) := by
  obtain ⟨l, h1, h2⟩ := h.has
  obtain ⟨ls', e, h3⟩ := lv_store1 h1 hi hc
  refine ⟨ls', e, h3.1, h3.2.1, fun j w hj => ?_⟩
  rw [List.getElem?_set] at hj
  by_cases hij : i = j
  · subst hij
    rw [if_pos rfl] at hj
    split at hj
    · cases hj
      exact ⟨hc, h3.2.2 (i, pV g v) List.mem_cons_self⟩
    · cases hj
  · rw [if_neg hij] at hj
    have hc2 := (h.2.2 j w hj).1
    refine ⟨hc2, h3.2.2 (j, pV g w) (List.mem_cons_of_mem _ (List.mem_filter.mpr ⟨(h2 _).mpr ⟨w, hj, rfl⟩, ?_⟩))⟩
    have e1 : (j == i) = false := by simp [Ne.symm hij]
    simp [e1, hc2]
theorem LV.at {g : GG} {ls : Array Slot} {nL i : Nat} {L : List (Option Value)} {v : Value} (h : LV g ls nL L) (hv : L[i]? = some (some v)) : ls[i]? = some (.val (pV g v)) := (h.2.2 i v hv).2
section MACH
variable {g : GG} {M : Mt} {R : Room} {Qf : State → Array Value → List Frame → State → Prop} {Ps : State → Prop} {n0 n pc : Nat} {L : List (Option Value)} {st : List Value} {X : LX}
/-- an instruction that leaves heap and locals -/
theorem ev_go {pc' : Nat} {st' : List Value} (h : ∀ (p : Program) (e : Env) (s : State) (m : MethodId) (args : Array Value) (below : List Frame) (meth : Method) (c : Code), Cx g M p s m args meth c → ∀ (R : Room) (Q : State → Prop) (cells slots : Nat) (H : Heap) (locs : List Loc) (ls : Array Slot), Wd g n X H → va_S (gA g) s.heap H locs → LV g ls (mL M) L →
    W p (gL g) e R s m args below meth c H locs cells slots Q (F0 m pc' ls (st'.map (pV g))) → W p (gL g) e R s m args below meth c H locs cells slots Q (F0 m pc ls (st.map (pV g))))
    (k : EvQ g M R Qf Ps n0 n pc' L st' X) : EvQ g M R Qf Ps n0 n pc L st X := by
  intro p e s m args below meth c C hPs hn H locs ls hW hS hl
  exact h p e s m args below meth c C _ _ _ _ H locs ls hW hS hl (k p e s m args below meth c C hPs hn H locs ls hW hS hl)
/-- an instruction that stores a local -/
theorem ev_sto {pc' i : Nat} {st' : List Value} {v : Value} (hi : i < mL M) (hc : v.category = 1) (h : ∀ (p : Program) (e : Env) (s : State) (m : MethodId) (args : Array Value) (below : List Frame) (meth : Method) (c : Code), Cx g M p s m args meth c → ∀ (R : Room) (Q : State → Prop) (cells slots : Nat) (H : Heap) (locs : List Loc) (ls ls' : Array Slot), LV g ls (mL M) L → storeLocals ls i (pV g v) = some ls' →
    W p (gL g) e R s m args below meth c H locs cells slots Q (F0 m pc' ls' (st'.map (pV g))) → W p (gL g) e R s m args below meth c H locs cells slots Q (F0 m pc ls (st.map (pV g))))
    (k : EvQ g M R Qf Ps n0 n pc' (L.set i (some v)) st' X) : EvQ g M R Qf Ps n0 n pc L st X := by
  intro p e s m args below meth c C hPs hn H locs ls hW hS hl
  obtain ⟨ls', e', hl'⟩ := hl.set hi (pV_cat C.2.2.2.2.2.2.2.1 hc)
  exact h p e s m args below meth c C _ _ _ _ H locs ls ls' hl e' (k p e s m args below meth c C hPs hn H locs ls' hW hS hl')
/-- an instruction that writes the cell k -/
theorem ev_wr {pc' : Nat} {st' : List Value} {X' : LX} (h : ∀ (p : Program) (e : Env) (s : State) (m : MethodId) (args : Array Value) (below : List Frame) (meth : Method) (c : Code), Cx g M p s m args meth c → ∀ (R : Room) (Q : State → Prop) (cells slots : Nat) (H : Heap) (locs : List Loc) (ls : Array Slot), Wd g n X H → va_S (gA g) s.heap H locs → LV g ls (mL M) L →
    (∀ (H1 : Heap) (locs1 : List Loc), va_P (gD g) vwCl (wl g n X') H1 → va_S (gA g) s.heap H1 locs1 → H1.size = H.size → W p (gL g) e R s m args below meth c H1 locs1 cells slots Q (F0 m pc' ls (st'.map (pV g)))) → W p (gL g) e R s m args below meth c H locs cells slots Q (F0 m pc ls (st.map (pV g))))
    (k : EvQ g M R Qf Ps n0 n pc' L st' X') : EvQ g M R Qf Ps n0 n pc L st X := by
  intro p e s m args below meth c C hPs hn H locs ls hW hS hl
  exact h p e s m args below meth c C _ _ _ _ H locs ls hW hS hl (fun H1 locs1 h1 h2 h3 => k p e s m args below meth c C hPs hn H1 locs1 ls ⟨by rw [h3]; exact hW.1, h1⟩ h2 hl)
-- constants
theorem ev_iconst {z : Int} {v : Int32} (hd : decode (mC M) pc = .ok (.iconst z, 1)) (hv : Int32.ofInt z = v) (k : EvQ g M R Qf Ps n0 n (pc + 1) L (.int v :: st) X) : EvQ g M R Qf Ps n0 n pc L st X :=
  ev_go (fun p e s m args below meth c C R Q cells slots H locs ls hW hS hl kk => lv_iconst C.1 C.2.1 hd hv kk) k
theorem ev_bipush {z : Int} {v : Int32} (hd : decode (mC M) pc = .ok (.bipush z, 2)) (hv : (Int8.ofInt z).toInt32 = v) (k : EvQ g M R Qf Ps n0 n (pc + 2) L (.int v :: st) X) : EvQ g M R Qf Ps n0 n pc L st X :=
  ev_go (fun p e s m args below meth c C R Q cells slots H locs ls hW hS hl kk => lv_bipush C.1 C.2.1 hd hv kk) k
theorem ev_sipush {z : Int} {v : Int32} (hd : decode (mC M) pc = .ok (.sipush z, 3)) (hv : (Int16.ofInt z).toInt32 = v) (k : EvQ g M R Qf Ps n0 n (pc + 3) L (.int v :: st) X) : EvQ g M R Qf Ps n0 n pc L st X :=
  ev_go (fun p e s m args below meth c C R Q cells slots H locs ls hW hS hl kk => lv_sipush C.1 C.2.1 hd hv kk) k
theorem ev_ldc {i : Nat} {v : Int32} (hd : decode (mC M) pc = .ok (.ldc i, 2)) (hw : Cond.constant (mY M).cls i v ∈ GT) (k : EvQ g M R Qf Ps n0 n (pc + 2) L (.int v :: st) X) : EvQ g M R Qf Ps n0 n pc L st X :=
  ev_go (fun p e s m args below meth c C R Q cells slots H locs ls hW hS hl kk => lv_ldc C.1 C.2.1 C.2.2.2.2.2.1 (C.2.2.2.2.2.2.1 _ hw) hd kk) k
theorem ev_ldcw {i : Nat} {v : Int32} (hd : decode (mC M) pc = .ok (.ldc_w i, 3)) (hw : Cond.constant (mY M).cls i v ∈ GT) (k : EvQ g M R Qf Ps n0 n (pc + 3) L (.int v :: st) X) : EvQ g M R Qf Ps n0 n pc L st X :=
  ev_go (fun p e s m args below meth c C R Q cells slots H locs ls hW hS hl kk => lv_ldcw C.1 C.2.1 C.2.2.2.2.2.1 (C.2.2.2.2.2.2.1 _ hw) hd kk) k
theorem ev_ldcS {i t : Nat} {e : sE} (hd : decode (mC M) pc = .ok (.ldc i, 2)) (he : e ∈ sTl) (h1 : cN e.1 = (mY M).cls) (h2 : e.2.1 = i) (h3 : e.2.2.1 = t) (k : EvQ g M R Qf Ps n0 n (pc + 2) L (.ref (1000 + t) :: st) X) : EvQ g M R Qf Ps n0 n pc L st X :=
  ev_go (fun p e' s m args below meth c C R Q cells slots H locs ls hW hS hl kk => by
    have hE := C.2.2.2.2.2.2.2.1.2.2.1 e he
    rw [h1, h2, h3] at hE
    refine va_ldcS C.1 C.2.1 C.2.2.2.2.2.1 hE hd ?_
    have : pA g (1000 + t) = gS g t := by unfold pA; rw [if_neg (by omega), Nat.add_sub_cancel_left]
    have h : pV g (.ref (1000 + t)) = .ref (gS g t) := by simp [pV, this]
    rw [List.map_cons, h] at kk
    exact kk) k
-- loads
theorem ev_iload_n {i : Fin 4} {x : Int32} (hd : decode (mC M) pc = .ok (.iload_n i, 1)) (hv : L[(i : Nat)]? = some (some (.int x))) (k : EvQ g M R Qf Ps n0 n (pc + 1) L (.int x :: st) X) : EvQ g M R Qf Ps n0 n pc L st X :=
  ev_go (fun p e s m args below meth c C R Q cells slots H locs ls hW hS hl kk => lv_iload_n C.1 C.2.1 hd rfl (hl.at hv) kk) k
theorem ev_iload {i : Nat} {x : Int32} (hd : decode (mC M) pc = .ok (.iload i, 2)) (hv : L[i]? = some (some (.int x))) (k : EvQ g M R Qf Ps n0 n (pc + 2) L (.int x :: st) X) : EvQ g M R Qf Ps n0 n pc L st X :=
  ev_go (fun p e s m args below meth c C R Q cells slots H locs ls hW hS hl kk => lv_iload C.1 C.2.1 hd (hl.at hv) kk) k
theorem ev_aload_n {i : Fin 4} {r : Nat} (hd : decode (mC M) pc = .ok (.aload_n i, 1)) (hv : L[(i : Nat)]? = some (some (.ref r))) (k : EvQ g M R Qf Ps n0 n (pc + 1) L (.ref r :: st) X) : EvQ g M R Qf Ps n0 n pc L st X :=
  ev_go (fun p e s m args below meth c C R Q cells slots H locs ls hW hS hl kk => lv_aload_n C.1 C.2.1 hd rfl (hl.at hv) kk) k
theorem ev_aload {i : Nat} {r : Nat} (hd : decode (mC M) pc = .ok (.aload i, 2)) (hv : L[i]? = some (some (.ref r))) (k : EvQ g M R Qf Ps n0 n (pc + 2) L (.ref r :: st) X) : EvQ g M R Qf Ps n0 n pc L st X :=
  ev_go (fun p e s m args below meth c C R Q cells slots H locs ls hW hS hl kk => lv_aload C.1 C.2.1 hd (hl.at hv) kk) k
-- stores
theorem ev_istore_n {i : Fin 4} {x : Int32} (hd : decode (mC M) pc = .ok (.istore_n i, 1)) (hi : (i : Nat) < mL M) (k : EvQ g M R Qf Ps n0 n (pc + 1) (L.set i (some (.int x))) st X) : EvQ g M R Qf Ps n0 n pc L (.int x :: st) X :=
  ev_sto hi rfl (fun p e s m args below meth c C R Q cells slots H locs ls ls' hl e' kk => by
    intro T hT Y
    obtain ⟨t, a, b⟩ := kk T hT Y
    refine ⟨t, ?_, b⟩
    have e2 : storeLocals ls i (.int x) = some ls' := e'
    jvm_step Y.here [Y.here.top, C.1, C.2.1, hd, e2, pV]
    exact a) k
theorem ev_istore {i : Nat} {x : Int32} (hd : decode (mC M) pc = .ok (.istore i, 2)) (hi : i < mL M) (k : EvQ g M R Qf Ps n0 n (pc + 2) (L.set i (some (.int x))) st X) : EvQ g M R Qf Ps n0 n pc L (.int x :: st) X :=
  ev_sto hi rfl (fun p e s m args below meth c C R Q cells slots H locs ls ls' hl e' kk => by
    intro T hT Y
    obtain ⟨t, a, b⟩ := kk T hT Y
    refine ⟨t, ?_, b⟩
    have e2 : storeLocals ls i (.int x) = some ls' := e'
    jvm_step Y.here [Y.here.top, C.1, C.2.1, hd, e2, pV]
    exact a) k
theorem ev_astore_n {i : Fin 4} {r : Nat} (hd : decode (mC M) pc = .ok (.astore_n i, 1)) (hi : (i : Nat) < mL M) (k : EvQ g M R Qf Ps n0 n (pc + 1) (L.set i (some (.ref r))) st X) : EvQ g M R Qf Ps n0 n pc L (.ref r :: st) X :=
  ev_sto hi rfl (fun p e s m args below meth c C R Q cells slots H locs ls ls' hl e' kk => by
    intro T hT Y
    obtain ⟨t, a, b⟩ := kk T hT Y
    refine ⟨t, ?_, b⟩
    have e2 : storeLocals ls i (.ref (pA g r)) = some ls' := e'
    jvm_step Y.here [Y.here.top, C.1, C.2.1, hd, e2, pV]
    exact ⟨rfl, a⟩) k
theorem ev_astore {i : Nat} {r : Nat} (hd : decode (mC M) pc = .ok (.astore i, 2)) (hi : i < mL M) (k : EvQ g M R Qf Ps n0 n (pc + 2) (L.set i (some (.ref r))) st X) : EvQ g M R Qf Ps n0 n pc L (.ref r :: st) X :=
  ev_sto hi rfl (fun p e s m args below meth c C R Q cells slots H locs ls ls' hl e' kk => by
    intro T hT Y
    obtain ⟨t, a, b⟩ := kk T hT Y
    refine ⟨t, ?_, b⟩
    have e2 : storeLocals ls i (.ref (pA g r)) = some ls' := e'
    jvm_step Y.here [Y.here.top, C.1, C.2.1, hd, e2, pV]
    exact ⟨rfl, a⟩) k
theorem ev_iinc {i : Nat} {z : Int} {x v : Int32} (hd : decode (mC M) pc = .ok (.iinc i z, 3)) (hv : L[i]? = some (some (.int x))) (hx : x + Int32.ofInt z = v) (hi : i < mL M) (k : EvQ g M R Qf Ps n0 n (pc + 3) (L.set i (some (.int v))) st X) : EvQ g M R Qf Ps n0 n pc L st X :=
  ev_sto (v := .int v) hi rfl (fun p e s m args below meth c C R Q cells slots H locs ls ls' hl e' kk => by
    intro T hT Y
    obtain ⟨t, a, b⟩ := kk T hT Y
    refine ⟨t, ?_, b⟩
    subst hx
    have hg : ls[i]? = some (.val (.int x)) := hl.at hv
    have e2 : storeLocals ls i (.int (x + Int32.ofInt z)) = some ls' := e'
    jvm_step Y.here [Y.here.top, C.1, C.2.1, hd, hg, e2]
    exact a) k
theorem ev_iadd {x y : Int32} (hd : decode (mC M) pc = .ok (.iadd, 1)) (k : EvQ g M R Qf Ps n0 n (pc + 1) L (.int (x + y) :: st) X) : EvQ g M R Qf Ps n0 n pc L (.int y :: .int x :: st) X :=
  ev_go (fun p e s m args below meth c C R Q cells slots H locs ls hW hS hl kk => lv_iadd C.1 C.2.1 hd kk) k
theorem ev_isub {x y : Int32} (hd : decode (mC M) pc = .ok (.isub, 1)) (k : EvQ g M R Qf Ps n0 n (pc + 1) L (.int (x - y) :: st) X) : EvQ g M R Qf Ps n0 n pc L (.int y :: .int x :: st) X :=
  ev_go (fun p e s m args below meth c C R Q cells slots H locs ls hW hS hl kk => lv_isub C.1 C.2.1 hd kk) k
theorem ev_imul {x y : Int32} (hd : decode (mC M) pc = .ok (.imul, 1)) (k : EvQ g M R Qf Ps n0 n (pc + 1) L (.int (x * y) :: st) X) : EvQ g M R Qf Ps n0 n pc L (.int y :: .int x :: st) X :=
  ev_go (fun p e s m args below meth c C R Q cells slots H locs ls hW hS hl kk => lv_imul C.1 C.2.1 hd kk) k
theorem ev_iand {x y : Int32} (hd : decode (mC M) pc = .ok (.iand, 1)) (k : EvQ g M R Qf Ps n0 n (pc + 1) L (.int (x &&& y) :: st) X) : EvQ g M R Qf Ps n0 n pc L (.int y :: .int x :: st) X :=
  ev_go (fun p e s m args below meth c C R Q cells slots H locs ls hW hS hl kk => lv_iand C.1 C.2.1 hd kk) k
theorem ev_ior {x y : Int32} (hd : decode (mC M) pc = .ok (.ior, 1)) (k : EvQ g M R Qf Ps n0 n (pc + 1) L (.int (x ||| y) :: st) X) : EvQ g M R Qf Ps n0 n pc L (.int y :: .int x :: st) X :=
  ev_go (fun p e s m args below meth c C R Q cells slots H locs ls hW hS hl kk => lv_ior C.1 C.2.1 hd kk) k
theorem ev_ixor {x y : Int32} (hd : decode (mC M) pc = .ok (.ixor, 1)) (k : EvQ g M R Qf Ps n0 n (pc + 1) L (.int (x ^^^ y) :: st) X) : EvQ g M R Qf Ps n0 n pc L (.int y :: .int x :: st) X :=
  ev_go (fun p e s m args below meth c C R Q cells slots H locs ls hW hS hl kk => lv_ixor C.1 C.2.1 hd kk) k
theorem ev_ishl {x y : Int32} (hd : decode (mC M) pc = .ok (.ishl, 1)) (k : EvQ g M R Qf Ps n0 n (pc + 1) L (.int (x <<< (y &&& 31)) :: st) X) : EvQ g M R Qf Ps n0 n pc L (.int y :: .int x :: st) X :=
  ev_go (fun p e s m args below meth c C R Q cells slots H locs ls hW hS hl kk => lv_ishl C.1 C.2.1 hd kk) k
theorem ev_ishr {x y : Int32} (hd : decode (mC M) pc = .ok (.ishr, 1)) (k : EvQ g M R Qf Ps n0 n (pc + 1) L (.int (x >>> (y &&& 31)) :: st) X) : EvQ g M R Qf Ps n0 n pc L (.int y :: .int x :: st) X :=
  ev_go (fun p e s m args below meth c C R Q cells slots H locs ls hW hS hl kk => lv_ishr C.1 C.2.1 hd kk) k
theorem ev_iushr {x y : Int32} (hd : decode (mC M) pc = .ok (.iushr, 1)) (k : EvQ g M R Qf Ps n0 n (pc + 1) L (.int ((x.toUInt32 >>> (y.toUInt32 &&& Int32.toUInt32 31)).toInt32) :: st) X) : EvQ g M R Qf Ps n0 n pc L (.int y :: .int x :: st) X :=
  ev_go (fun p e s m args below meth c C R Q cells slots H locs ls hW hS hl kk => lv_iushr C.1 C.2.1 hd rfl kk) k
theorem ev_idiv {x y : Int32} (hd : decode (mC M) pc = .ok (.idiv, 1)) (hy : ¬ y = 0) (k : EvQ g M R Qf Ps n0 n (pc + 1) L (.int (x / y) :: st) X) : EvQ g M R Qf Ps n0 n pc L (.int y :: .int x :: st) X :=
  ev_go (fun p e s m args below meth c C R Q cells slots H locs ls hW hS hl kk => lv_idiv C.1 C.2.1 hd hy kk) k
theorem ev_irem {x y : Int32} (hd : decode (mC M) pc = .ok (.irem, 1)) (hy : ¬ y = 0) (k : EvQ g M R Qf Ps n0 n (pc + 1) L (.int (x - x / y * y) :: st) X) : EvQ g M R Qf Ps n0 n pc L (.int y :: .int x :: st) X :=
  ev_go (fun p e s m args below meth c C R Q cells slots H locs ls hW hS hl kk => lv_irem C.1 C.2.1 hd hy kk) k
theorem ev_ineg {x : Int32} (hd : decode (mC M) pc = .ok (.ineg, 1)) (k : EvQ g M R Qf Ps n0 n (pc + 1) L (.int (-x) :: st) X) : EvQ g M R Qf Ps n0 n pc L (.int x :: st) X :=
  ev_go (fun p e s m args below meth c C R Q cells slots H locs ls hW hS hl kk => lv_ineg C.1 C.2.1 hd kk) k
theorem ev_i2s {x : Int32} (hd : decode (mC M) pc = .ok (.i2s, 1)) (k : EvQ g M R Qf Ps n0 n (pc + 1) L (.int (x.toInt16.toInt32) :: st) X) : EvQ g M R Qf Ps n0 n pc L (.int x :: st) X :=
  ev_go (fun p e s m args below meth c C R Q cells slots H locs ls hW hS hl kk => lv_i2s C.1 C.2.1 hd rfl kk) k
theorem ev_i2b {x : Int32} (hd : decode (mC M) pc = .ok (.i2b, 1)) (k : EvQ g M R Qf Ps n0 n (pc + 1) L (.int (x.toInt8.toInt32) :: st) X) : EvQ g M R Qf Ps n0 n pc L (.int x :: st) X :=
  ev_go (fun p e s m args below meth c C R Q cells slots H locs ls hW hS hl kk => lv_i2b C.1 C.2.1 hd rfl kk) k
theorem ev_i2c {x : Int32} (hd : decode (mC M) pc = .ok (.i2c, 1)) (k : EvQ g M R Qf Ps n0 n (pc + 1) L (.int ((x.toUInt32 % 65536).toInt32) :: st) X) : EvQ g M R Qf Ps n0 n pc L (.int x :: st) X :=
  ev_go (fun p e s m args below meth c C R Q cells slots H locs ls hW hS hl kk => lv_i2c C.1 C.2.1 hd rfl kk) k
theorem ev_i2l {x : Int32} (hd : decode (mC M) pc = .ok (.i2l, 1)) (k : EvQ g M R Qf Ps n0 n (pc + 1) L (.long x.toInt64 :: st) X) : EvQ g M R Qf Ps n0 n pc L (.int x :: st) X :=
  ev_go (fun p e s m args below meth c C R Q cells slots H locs ls hW hS hl kk => lv_i2l C.1 C.2.1 hd rfl kk) k
theorem ev_ladd {x y : Int64} (hd : decode (mC M) pc = .ok (.ladd, 1)) (k : EvQ g M R Qf Ps n0 n (pc + 1) L (.long (x + y) :: st) X) : EvQ g M R Qf Ps n0 n pc L (.long y :: .long x :: st) X :=
  ev_go (fun p e s m args below meth c C R Q cells slots H locs ls hW hS hl kk => lv_ladd C.1 C.2.1 hd kk) k
theorem ev_lcmp {x y : Int64} (hd : decode (mC M) pc = .ok (.lcmp, 1)) (k : EvQ g M R Qf Ps n0 n (pc + 1) L (.int (lg_cmp x y) :: st) X) : EvQ g M R Qf Ps n0 n pc L (.long y :: .long x :: st) X :=
  ev_go (fun p e s m args below meth c C R Q cells slots H locs ls hW hS hl kk => W.lcmp C.1 C.2.1 hd kk) k
theorem ev_dup {v : Value} (hd : decode (mC M) pc = .ok (.dup, 1)) (hv : v.category = 1) (k : EvQ g M R Qf Ps n0 n (pc + 1) L (v :: v :: st) X) : EvQ g M R Qf Ps n0 n pc L (v :: st) X :=
  ev_go (fun p e s m args below meth c C R Q cells slots H locs ls hW hS hl kk => lv_dup C.1 C.2.1 hd (pV_cat C.2.2.2.2.2.2.2.1 hv) kk) k
theorem ev_pop {v : Value} (hd : decode (mC M) pc = .ok (.pop, 1)) (hv : v.category = 1) (k : EvQ g M R Qf Ps n0 n (pc + 1) L st X) : EvQ g M R Qf Ps n0 n pc L (v :: st) X :=
  ev_go (fun p e s m args below meth c C R Q cells slots H locs ls hW hS hl kk => lv_pop C.1 C.2.1 hd (pV_cat C.2.2.2.2.2.2.2.1 hv) kk) k
theorem ev_dup_x1 {v w : Value} (hd : decode (mC M) pc = .ok (.dup_x1, 1)) (hv : v.category = 1) (hw : w.category = 1) (k : EvQ g M R Qf Ps n0 n (pc + 1) L (v :: w :: v :: st) X) : EvQ g M R Qf Ps n0 n pc L (v :: w :: st) X :=
  ev_go (fun p e s m args below meth c C R Q cells slots H locs ls hW hS hl kk => lv_dup_x1 C.1 C.2.1 hd (pV_cat C.2.2.2.2.2.2.2.1 hv) (pV_cat C.2.2.2.2.2.2.2.1 hw) kk) k
theorem ev_dup2 {v w : Value} (hd : decode (mC M) pc = .ok (.dup2, 1)) (hv : v.category = 1) (hw : w.category = 1) (k : EvQ g M R Qf Ps n0 n (pc + 1) L (v :: w :: v :: w :: st) X) : EvQ g M R Qf Ps n0 n pc L (v :: w :: st) X :=
  ev_go (fun p e s m args below meth c C R Q cells slots H locs ls hW hS hl kk => lv_dup2_11 C.1 C.2.1 hd (pV_cat C.2.2.2.2.2.2.2.1 hv) (pV_cat C.2.2.2.2.2.2.2.1 hw) kk) k
theorem ev_null (hd : decode (mC M) pc = .ok (.aconst_null, 1)) (k : EvQ g M R Qf Ps n0 n (pc + 1) L (.null :: st) X) : EvQ g M R Qf Ps n0 n pc L st X :=
  ev_go (fun p e s m args below meth c C R Q cells slots H locs ls hW hS hl kk => lv_null C.1 C.2.1 hd kk) k
theorem ev_goto {off : Int} {tgt : Nat} (hd : decode (mC M) pc = .ok (.goto off, 3)) (ht : (pc : Int) + off = (tgt : Int)) (k : EvQ g M R Qf Ps n0 n tgt L st X) : EvQ g M R Qf Ps n0 n pc L st X :=
  ev_go (fun p e s m args below meth c C R Q cells slots H locs ls hW hS hl kk => lv_goto C.1 C.2.1 hd ht kk) k
theorem ev_ifnonnull {r : Nat} {off : Int} {tgt : Nat} (hd : decode (mC M) pc = .ok (.ifnonnull off, 3)) (ht : (pc : Int) + off = (tgt : Int)) (k : EvQ g M R Qf Ps n0 n tgt L st X) : EvQ g M R Qf Ps n0 n pc L (.ref r :: st) X :=
  ev_go (fun p e s m args below meth c C R Q cells slots H locs ls hW hS hl kk => lv_ifnonnull C.1 C.2.1 hd ht kk) k
theorem ev_ifnonnullN {off : Int} (hd : decode (mC M) pc = .ok (.ifnonnull off, 3)) (k : EvQ g M R Qf Ps n0 n (pc + 3) L st X) : EvQ g M R Qf Ps n0 n pc L (.null :: st) X :=
  ev_go (fun p e s m args below meth c C R Q cells slots H locs ls hW hS hl kk => lv_ifnonnullN C.1 C.2.1 hd kk) k
end MACH
