/-! PLAN, 2: the class's seekFrom. -/
/-- a swap of a family as the class's rows name it -/
def Cd (X : LX) (N0 : Nat → Nat → Nat) (f : Nat) (v : Int32) : Option (Nat × Nat) → Prop
  | none => v = -1
  | some e => ∃ j, j < 588 ∧ v = nI j ∧ X 103 j = nI e.1 ∧ X 104 j = nI e.2 ∧ X 105 j = nI (N0 f e.1) ∧ e.1 < 14 ∧ e.2 < 14 ∧ e.1 ≠ e.2
def pBc (X : LX) (N0 : Nat → Nat → Nat) (F : Nat) (Z : LX) : Option (Nat × Nat × PRow) → Prop
  | none => Z 87 14 = 0
  | some q => Z 87 14 = 1 ∧ Z 87 16 = nI q.1 ∧ Z 87 15 = nI q.2.1 ∧ q.1 ≤ 1000000 ∧ q.2.1 ≤ 12 ∧ ∀ f, f < F → Cd X N0 f (Z 108 f) (q.2.2 f)
/-- what the class has gathered before it seeks -/
def Gt (X : LX) (L F P : Nat) (st : Nat → Nat) (N0 : Nat → Nat → Nat) (Pr : Nat → List (Nat × Nat)) (sr : Nat → Nat × Nat → Nat) : Prop := (F ≤ 12 ∧ P ≤ 14 ∧ L ≤ 5000) ∧ X 37 0 = nI F ∧ X 2 0 = nI P ∧ X 87 12 = nI L ∧ (∀ p, p < P → st p < 2 ^ 29) ∧ (∀ f, f < F → ∃ j, X 102 f = nI j ∧ X 102 (f + 1) = nI (j + (Pr f).length) ∧ j + (Pr f).length ≤ 588 ∧ ∀ i e, (Pr f)[i]? = some e → X 103 (j + i) = nI e.1 ∧ X 104 (j + i) = nI e.2 ∧ X 105 (j + i) = nI (N0 f e.1) ∧ X 106 (j + i) = nI (sr f e)) ∧ ∀ f, f < F → ∀ e, e ∈ Pr f → e.1 < P ∧ e.2 < P ∧ e.1 ≠ e.2 ∧ N0 f e.2 = 0 ∧ sr f e ≤ 60000
def Nb (F P : Nat) (N : Nat → Nat → Nat) : Prop := ∀ f, f < F → ∀ p, p < P → N f p ≤ 60000
theorem Nb.mv {F P f : Nat} {N : Nat → Nat → Nat} {e : Nat × Nat} (h : Nb F P N) (hf : f < F) (he : e.1 < P) : Nb F P (mv N f e) := by
  intro f' hf' p hp
  show (if f' = f then (if p = e.2 then N f e.1 else if p = e.1 then 0 else N f p) else N f' p) ≤ 60000
  by_cases c : f' = f
  · rw [if_pos c]
    by_cases c1 : p = e.2
    · rw [if_pos c1]; exact h f hf _ he
    · rw [if_neg c1]
      by_cases c2 : p = e.1
      · rw [if_pos c2]; exact Nat.zero_le _
      · rw [if_neg c2]; exact h f hf p hp
  · rw [if_neg c]; exact h f' hf' p hp
theorem Nb.tnl {F P : Nat} {N : Nat → Nat → Nat} (h : Nb F P N) (hF : F ≤ 12) {p : Nat} (hp : p < P) : tn F N p ≤ 720000 := by
  have := nsum_le (a := fun f => N f p) (b := 60000) (N := F) (fun f hf => h f hf p hp)
  have h2 : F * 60000 ≤ 12 * 60000 := Nat.mul_le_mul_right _ hF
  unfold tn
  omega
theorem tn_ge {F f : Nat} {N : Nat → Nat → Nat} {p : Nat} : f < F → N f p ≤ tn F N p := by
  intro hf
  have h := nsum_up (a := fun f => N f p) (p := f) (x := 0) hf
  unfold tn
  omega
def enC (F P : Nat) (st : Nat → Nat) (N : Nat → Nat → Nat) : Bool := decide (∀ p, p < P → tn F N p ≤ st p)
theorem nsum_0 {a : Nat → Nat} : ∀ {N : Nat}, nsum a N = 0 ↔ ∀ p, p < N → a p = 0
  | 0 => ⟨fun _ p hp => absurd hp (Nat.not_lt_zero _), fun _ => rfl⟩
  | N + 1 => by
    show nsum a N + a N = 0 ↔ _
    constructor
    · intro h p hp
      rcases Nat.lt_succ_iff_lt_or_eq.mp hp with q | q
      · exact nsum_0.mp (by omega) p q
      · subst q; omega
    · intro h
      have h1 := nsum_0.mpr (fun p hp => h p (Nat.lt_succ_of_lt hp))
      have h2 := h N (Nat.lt_succ_self N)
      omega
theorem cnS_0 {F P : Nat} {st : Nat → Nat} {N : Nat → Nat → Nat} : cnS st (tn F N) P = 0 ↔ enC F P st N = true := by
  unfold cnS enC
  rw [nsum_0, decide_eq_true_iff]
  constructor
  · intro h p hp
    have := h p hp
    by_cases c : st p < tn F N p
    · rw [if_pos c] at this; omega
    · omega
  · intro h p hp
    exact if_neg (by have := h p hp; omega)
def Pl (n : Nat) (X : LX) (L F P : Nat) (st : Nat → Nat) (N0 : Nat → Nat → Nat) (Z : LX) (t : Nat → Nat) (s : PS) : Prop := Sh n Z ∧ (∀ k, k ≠ 87 → k ≠ 101 → k ≠ 107 → k ≠ 108 → Z k = X k) ∧ (∀ j, j ≠ 3 → j ≠ 13 → j ≠ 14 → j ≠ 15 → j ≠ 16 → Z 87 j = X 87 j) ∧ Sp st P Z t ∧ s.1 ≤ L ∧ Z 87 13 = nI (if s.2.1 = true then L + 1 else L - s.1) ∧ pBc X N0 F Z s.2.2
section PLS
variable {g : GG} {n L F P : Nat} {X : LX} {st : Nat → Nat} {N0 : Nat → Nat → Nat} {Pr : Nat → List (Nat × Nat)} {sr : Nat → Nat × Nat → Nat} {post : Option Value → LX → Prop}
theorem pBc.same {Z Z' : LX} {o : Option (Nat × Nat × PRow)} (h : pBc X N0 F Z o) (he : ∀ t, t = 14 ∨ t = 15 ∨ t = 16 → Z' 87 t = Z 87 t) (h8 : Z' 108 = Z 108) : pBc X N0 F Z' o := by
  cases o with
  | none => show Z' 87 14 = 0; rw [he 14 (by omega)]; exact h
  | some q =>
    obtain ⟨h1, h2, h3, h4, h5, h6⟩ := h
    exact ⟨by rw [he 14 (by omega)]; exact h1, by rw [he 16 (by omega)]; exact h2, by rw [he 15 (by omega)]; exact h3, h4, h5, by rw [h8]; exact h6⟩
/-- the entry: what is worse than the best is left -/
theorem pl_in {d f a b : Nat} {Z : LX} {t : Nat → Nat} {s : PS} (hn : 146 ≤ n) (hG : Gt X L F P st N0 Pr sr) (hZ : Pl n X L F P st N0 Z t s) (hf : f ≤ F) (ha : a ≤ 1000000) (hb : b ≤ 12) (hp : pPr s.2.2 a b = true → post none Z) (h1 : pPr s.2.2 a b = false → f = F → cnS st t P = 0 → Ev g mX8_seekFrom d n n post n 56 [some (.ref 87), some (.int (nI f)), some (.int (nI a)), some (.int (nI b)), none] [.int (nI b), .int (nI a), .ref 87] Z) (h2 : pPr s.2.2 a b = false → f = F → cnS st t P ≠ 0 → post none Z) (h3 : pPr s.2.2 a b = false → f < F → Ev g mX8_seekFrom d n n post n 73 [some (.ref 87), some (.int (nI f)), some (.int (nI a)), some (.int (nI b)), none] [.int (nI b), .int (nI a), .int (nI f + 1), .ref 87] (lx_up Z 107 f (-1))) : Ev g mX8_seekFrom d n n post n 0 [some (.ref 87), some (.int (nI f)), some (.int (nI a)), some (.int (nI b)), none] [] Z := by
  obtain ⟨z1, z2, z3, z4, z5, z6, z7⟩ := id hZ
  obtain ⟨⟨gF, gP, gL⟩, g1, g2, -⟩ := id hG
  have e37 : Z 37 0 = nI F := by rw [z2 37 (by omega) (by omega) (by omega) (by omega), g1]
  have hcl := cnS_le (st := st) (t := t) (P := P)
  have hs3 : Z 87 3 = 0 ↔ cnS st t P = 0 := by
    rw [z4.2]
    exact nI_eq (b := 0) (by omega) (by omega)
  have hlt : nI f < Z 37 0 ↔ f < F := by rw [e37]; exact nI_ltI (by omega) (by omega)
  cases hs : s.2.2 with
  | none =>
    rw [hs] at z7 hp h1 h2 h3
    have c0 : Z 87 14 = 0 := z7
    by_cases cf : f < F
    · exact bX8_seekFrom_0_10 hn z1 c0 (hlt.mpr cf) (by omega) (h3 rfl cf)
    · by_cases cs : cnS st t P = 0
      · exact bX8_seekFrom_0_8 hn z1 c0 (fun w => cf (hlt.mp w)) (hs3.mpr cs) (h1 rfl (by omega) cs)
      · exact bX8_seekFrom_0_9 hn z1 c0 (fun w => cf (hlt.mp w)) (fun w => cs (hs3.mp w)) (h2 rfl (by omega) cs)
  | some q =>
    rw [hs] at z7 hp h1 h2 h3
    obtain ⟨q1, q2, q3, q4, q5, -⟩ := z7
    have c0 : ¬ Z 87 14 = 0 := by rw [q1]; decide
    have i1 : Z 87 16 < nI a ↔ q.1 < a := by rw [q2]; exact nI_ltI (by omega) (by omega)
    have i2 : nI a = Z 87 16 ↔ a = q.1 := by rw [q2]; exact nI_eq (by omega) (by omega)
    have i3 : nI b < Z 87 15 ↔ b < q.2.1 := by rw [q3]; exact nI_ltI (by omega) (by omega)
    by_cases c1 : q.1 < a
    · exact bX8_seekFrom_0_7 hn z1 c0 (i1.mpr c1) (hp (decide_eq_true (Or.inl c1)))
    · have c1' : ¬ Z 87 16 < nI a := fun w => c1 (i1.mp w)
      by_cases c2 : a = q.1
      · by_cases c3 : b < q.2.1
        · have hpf : pPr (some q) a b = false := decide_eq_false (fun w => by omega)
          by_cases cf : f < F
          · exact bX8_seekFrom_0_3 hn z1 c0 c1' (i2.mpr c2) (i3.mpr c3) (hlt.mpr cf) (by omega) (h3 hpf cf)
          · by_cases cs : cnS st t P = 0
            · exact bX8_seekFrom_0_1 hn z1 c0 c1' (i2.mpr c2) (i3.mpr c3) (fun w => cf (hlt.mp w)) (hs3.mpr cs) (h1 hpf (by omega) cs)
            · exact bX8_seekFrom_0_2 hn z1 c0 c1' (i2.mpr c2) (i3.mpr c3) (fun w => cf (hlt.mp w)) (fun w => cs (hs3.mp w)) (h2 hpf (by omega) cs)
        · exact bX8_seekFrom_0_0 hn z1 c0 c1' (i2.mpr c2) (fun w => c3 (i3.mp w)) (hp (decide_eq_true (Or.inr ⟨c2, by omega⟩)))
      · have hpf : pPr (some q) a b = false := decide_eq_false (fun w => by omega)
        by_cases cf : f < F
        · exact bX8_seekFrom_0_6 hn z1 c0 c1' (fun w => c2 (i2.mp w)) (hlt.mpr cf) (by omega) (h3 hpf cf)
        · by_cases cs : cnS st t P = 0
          · exact bX8_seekFrom_0_4 hn z1 c0 c1' (fun w => c2 (i2.mp w)) (fun w => cf (hlt.mp w)) (hs3.mpr cs) (h1 hpf (by omega) cs)
          · exact bX8_seekFrom_0_5 hn z1 c0 c1' (fun w => c2 (i2.mp w)) (fun w => cf (hlt.mp w)) (fun w => cs (hs3.mp w)) (h2 hpf (by omega) cs)
theorem c_takeRow {d a b : Nat} {Z : LX} {t : Nat → Nat} {s : PS} {r : PRow} (hd : 2 ≤ d) (hn : 146 ≤ n) (hF : F ≤ 12) (ha : a ≤ 1000000) (hb : b ≤ 12) (hZ : Pl n X L F P st N0 Z t s) (hr : ∀ f, f < F → Cd X N0 f (Z 107 f) (r f)) : Ex g mX8_takeRow d n n [.ref 87, .int (nI a), .int (nI b)] Z (fun u Z' => u = none ∧ Pl n X L F P st N0 Z' t (s.1, s.2.1, some (a, b, r)) ∧ Z' 107 = Z 107) := by
  obtain ⟨z1, z2, z3, z4, z5, z6, z7⟩ := id hZ
  obtain ⟨Y, hY⟩ : ∃ Y : LX, Y = lx_up (lx_up (lx_up Z 87 14 1) 87 16 (nI a)) 87 15 (nI b) := ⟨_, rfl⟩
  have hSY : Sh n Y := by
    rw [hY]
    exact ((z1.upF (by decide +kernel) (by decide +kernel)).upF (by decide +kernel) (by decide +kernel)).upF (by decide +kernel) (by decide +kernel)
  have y87 : ∀ k, k ≠ 87 → Y k = Z k := fun k hk => by rw [hY, up_ne hk, up_ne hk, up_ne hk]
  refine e_of vX8_takeRow (Nat.le_of_ble_eq_true rfl) (cat_of rfl) (bX8_takeRow_0_0 hd hn z1 ?_)
  rw [← hY]
  obtain ⟨W, hW⟩ : ∃ W : LX, W = lx_row Y 108 (va_cpy (Y 107) (Y 108) 0 0 12) := ⟨_, rfl⟩
  rw [← hW]
  have w8 : ∀ k, k ≠ 108 → W k = Y k := fun k hk => by rw [hW, lx_row_ne _ _ _ hk]
  refine ⟨rfl, ⟨by rw [hW]; exact hSY.row (by decide +kernel), fun k h1 h2 h3 h4 => by rw [w8 k h4, y87 k h1, z2 k h1 h2 h3 h4], fun j h1 h2 h3 h4 h5 => ?_, ⟨fun p hp => by rw [w8 101 (by omega), y87 101 (by omega), z4.1 p hp], ?_⟩, z5, ?_, ?_, ?_, ?_, ha, hb, ?_⟩, by rw [w8 107 (by omega), y87 107 (by omega)]⟩
  · rw [w8 87 (by omega), hY, up_at h4, up_at h5, up_at h3, z3 j h1 h2 h3 h4 h5]
  · rw [w8 87 (by omega), hY]; simp (disch := omega) only [up_at]; exact z4.2
  · rw [w8 87 (by omega), hY]; simp (disch := omega) only [up_at]; exact z6
  · rw [w8 87 (by omega), hY]; simp (disch := omega) only [up_at, up_it]
  · rw [w8 87 (by omega), hY]; simp (disch := omega) only [up_at, up_it]
  · rw [w8 87 (by omega), hY]; simp (disch := omega) only [up_at, up_it]
  · intro f hf
    rw [hW, lx_row_self, pk_cpy_in (by omega) (by omega), show 0 + (f - 0) = f by omega, y87 107 (by omega)]
    exact hr f hf
theorem c_plan (hn : 146 ≤ n) (hG : Gt X L F P st N0 Pr sr) : ∀ k, k ≤ F → ∀ (d : Nat) (N : Nat → Nat → Nat) (a b : Nat) (r : PRow) (s : PS) (Z : LX), k + 4 ≤ d → Nb F P N → (∀ f, F - k ≤ f → N f = N0 f) → a + 60000 * k ≤ 1000000 → b + k ≤ 12 → Pl n X L F P st N0 Z (tn F N) s → (∀ f, f < F - k → Cd X N0 f (Z 107 f) (r f)) → Ex g mX8_seekFrom d n n [.ref 87, .int (nI (F - k)), .int (nI a), .int (nI b)] Z (fun w Z' => w = none ∧ Pl n X L F P st N0 Z' (tn F N) (pS F (enC F P st) Pr sr k N a b r s) ∧ ∀ f, f < F - k → Z' 107 f = Z 107 f) := by
  obtain ⟨⟨gF, gP, gL⟩, g1, g2, g3, g4, g5, g6⟩ := id hG
  intro k
  induction k with
  | zero =>
    intro _ d N a b r s Z hd hN hN0 ha hb hZ hr
    rw [Nat.sub_zero] at hr ⊢
    refine e_of vX8_seekFrom (Nat.le_of_ble_eq_true rfl) (cat_of rfl) (pl_in hn hG hZ (Nat.le_refl _) (by omega) (by omega) (fun hp => ?_) (fun hp _ hs => ?_) (fun hp _ hs => ?_) (fun _ h => absurd h (Nat.lt_irrefl _)))
    · rw [pS_0, if_pos hp]; exact ⟨rfl, hZ, fun _ _ => rfl⟩
    · refine qX8_seekFrom_56 (d' := d - 1) (rest := []) hn (by omega) (by decide) (c_takeRow (by omega) hn gF (by omega) (by omega) hZ hr) (fun v W hv => ?_)
      obtain ⟨rfl, hW, h107⟩ := hv
      refine bX8_seekFrom_59_0 hn hW.1 ?_
      rw [pS_0, if_neg (by rw [hp]; decide), if_pos (cnS_0.mp hs)]
      exact ⟨rfl, hW, fun f _ => by rw [h107]⟩
    · rw [pS_0, if_neg (by rw [hp]; decide), if_neg (fun w => hs (cnS_0.mpr w))]
      exact ⟨rfl, hZ, fun _ _ => rfl⟩
  | succ k ih =>
    intro hk d N a b r s Z hd hN hN0 ha hb hZ hr
    have hf : F - (k + 1) < F := by omega
    obtain ⟨f, ef⟩ : ∃ f, f = F - (k + 1) := ⟨_, rfl⟩
    have ef1 : F - k = f + 1 := by omega
    rw [pS_s]
    rw [← ef] at hr hf hN0 ⊢
    refine e_of vX8_seekFrom (Nat.le_of_ble_eq_true rfl) (cat_of rfl) (pl_in hn hG hZ (by omega) (by omega) (by omega) (fun hp => ?_) (fun _ h => by omega) (fun _ h => by omega) (fun hp _ => ?_))
    · rw [if_pos hp]; exact ⟨rfl, hZ, fun _ _ => rfl⟩
    rw [if_neg (by rw [hp]; decide)]
    obtain ⟨z1, z2, z3, z4, z5, z6, z7⟩ := id hZ
    have hB0 : Pl n X L F P st N0 (lx_up Z 107 f (-1)) (tn F N) s := ⟨z1.upA (by decide +kernel), fun k h1 h2 h3 h4 => by rw [up_ne h3, z2 k h1 h2 h3 h4], fun j h1 h2 h3 h4 h5 => by rw [up_ne (by omega), z3 j h1 h2 h3 h4 h5], ⟨fun p hp => by rw [up_ne (by omega), z4.1 p hp], by rw [up_ne (by omega), z4.2]⟩, z5, by rw [up_ne (by omega)]; exact z6, z7.same (fun t _ => by rw [up_ne (by omega)]) (up_ne (by omega))⟩
    have hE := ih (by omega) (d - 1) N a b (rwU r f none) s _ (by omega) hN (fun f' hf' => hN0 f' (by omega)) (by omega) (by omega) hB0 (fun f' hf' => by
      unfold rwU
      by_cases c : f' = f
      · rw [if_pos c, c, up_it]; rfl
      · rw [if_neg c, up_at c]; exact hr f' (by omega))
    rw [ef1, ← nI_1] at hE
    refine qX8_seekFrom_73 (d' := d - 1) (rest := []) hn (by omega) (by decide) hE (fun v W hv => ?_)
    obtain ⟨rfl, hW, w107⟩ := hv
    obtain ⟨j, j1, j2, j3, j4⟩ := g5 f hf
    have loop : ∀ (l : List (Nat × Nat)) (i : Nat) (s' : PS) (W : LX), (Pr f).drop i = l → i + l.length = (Pr f).length → Pl n X L F P st N0 W (tn F N) s' → (∀ f', f' < f → W 107 f' = Z 107 f') → Ev g mX8_seekFrom d n n (fun w Z' => w = none ∧ Pl n X L F P st N0 Z' (tn F N) (pL (fun e s' => pS F (enC F P st) Pr sr k (mv N f e) (a + sr f e) (b + 1) (rwU r f (some e)) s') l s') ∧ ∀ f', f' < f → Z' 107 f' = Z 107 f') n 84 [some (.ref 87), some (.int (nI f)), some (.int (nI a)), some (.int (nI b)), some (.int (nI (j + i)))] [] W := by
      intro l
      induction l with
      | nil =>
        intro i s' W hl hi hW hr'
        obtain ⟨w1, w2, -⟩ := id hW
        simp only [List.length_nil] at hi
        refine bX8_seekFrom_84_3 hn w1 (by omega) (by rw [w2 102 (by omega) (by omega) (by omega) (by omega), j2]; exact nI_le (by omega) (by omega)) ⟨rfl, ?_, hr'⟩
        rw [pL_0]; exact hW
      | cons e l ihl =>
        intro i s' W hl hi hW hr'
        obtain ⟨w1, w2, w3, w4, w5, w6, w7⟩ := id hW
        simp only [List.length_cons] at hi
        have hget : (Pr f)[i]? = some e := by
          have := List.getElem?_drop (xs := Pr f) (i := i) (j := 0)
          rw [hl] at this
          rw [show i + 0 = i from rfl] at this
          rw [← this]
          rfl
        have hmem : e ∈ Pr f := List.mem_of_getElem? hget
        have htl : (Pr f).drop (i + 1) = l := by
          have := List.tail_drop (l := Pr f) (i := i)
          rw [hl] at this
          exact this.symm
        obtain ⟨m1, m2, m3, m4, m5⟩ := g6 f hf e hmem
        obtain ⟨x3, x4, x5, x6⟩ := j4 i e hget
        have c0 : ¬ W 102 (f + 1) ≤ nI (j + i) := by rw [w2 102 (by omega) (by omega) (by omega) (by omega), j2]; exact nI_ge (by omega) (by omega)
        have e12 : W 87 12 = nI L := by rw [w3 12 (by omega) (by omega) (by omega) (by omega) (by omega), g3]
        rw [pL_s]
        by_cases hsp : s'.2.1 = true
        · rw [if_pos hsp] at w6 ⊢
          exact bX8_seekFrom_84_2 hn w1 (by omega) c0 (by rw [e12, w6]; exact nI_lt (by omega) (by omega)) ⟨rfl, hW, hr'⟩
        · rw [if_neg hsp] at w6 ⊢
          have c1 : ¬ W 87 12 < W 87 13 := by rw [e12, w6]; exact nI_nlt (by omega) (by omega)
          have hS1 : Sh n (lx_up W 87 13 (W 87 13 + 1)) := w1.upF (by decide +kernel) (by decide +kernel)
          have hup : ∀ (s2 : PS), s2.2.2 = s'.2.2 → s2.1 ≤ L → W 87 13 + 1 = nI (if s2.2.1 = true then L + 1 else L - s2.1) → Pl n X L F P st N0 (lx_up W 87 13 (W 87 13 + 1)) (tn F N) s2 := fun s2 h1 h2 h3 => ⟨hS1, fun k h1 h2 h3 h4 => by rw [up_ne h1, w2 k h1 h2 h3 h4], fun j h1 h2 h3 h4 h5 => by rw [up_at h2, w3 j h1 h2 h3 h4 h5], ⟨fun p hp => by rw [up_ne (by omega), w4.1 p hp], by rw [up_at (by omega), w4.2]⟩, h2, by rw [up_it]; exact h3, by rw [h1]; exact w7.same (fun t _ => by rw [up_at (by omega)]) (up_ne (by omega))⟩
          by_cases h0 : s'.1 = 0
          · rw [if_pos h0]
            refine bX8_seekFrom_84_0 hn w1 (by omega) c0 c1 (by rw [e12, w6, h0, nI_1]; exact nI_ge (by omega) (by omega)) ⟨rfl, hup (0, true, s'.2.2) rfl (Nat.zero_le _) ?_, fun f' hf' => by rw [up_ne (by omega), hr' f' hf']⟩
            rw [w6, h0, nI_1, if_pos rfl, Nat.sub_zero]
          · rw [if_neg h0]
            have hP1 := hup (s'.1 - 1, false, s'.2.2) rfl (by show s'.1 - 1 ≤ L; omega) (by
              rw [w6, nI_1, if_neg Bool.false_ne_true]
              show nI (L - s'.1 + 1) = nI (L - (s'.1 - 1))
              rw [show L - s'.1 + 1 = L - (s'.1 - 1) by omega])
            obtain ⟨p1, p2, p3, p4, p5, p6, p7⟩ := hP1
            obtain ⟨Y, hY⟩ : ∃ Y : LX, Y = lx_up (lx_up W 87 13 (W 87 13 + 1)) 107 f (nI (j + i)) := ⟨_, rfl⟩
            have y7 : ∀ k, k ≠ 107 → Y k = lx_up W 87 13 (W 87 13 + 1) k := fun k hk => by rw [hY, up_ne hk]
            have hYS : Sh n Y := by rw [hY]; exact p1.upA (by decide +kernel)
            have hNt : ∀ p, p < P → tn F N p + N f e.1 < 2 ^ 30 := fun p hp => by
              have h1 := hN.tnl gF hp
              have h2 := hN f hf _ m1
              omega
            have eN : N f e.1 = N0 f e.1 := by rw [hN0 f (Nat.le_refl _)]
            refine bX8_seekFrom_84_1 hn w1 (by omega) c0 c1 (by rw [e12, w6, nI_1]; exact nI_le (by omega) (by omega)) (by omega) (by omega) ?_
            rw [w2 103 (by omega) (by omega) (by omega) (by omega), w2 104 (by omega) (by omega) (by omega) (by omega), w2 105 (by omega) (by omega) (by omega) (by omega), x3, x4, x5, ← hY, ← eN]
            refine qX8_seekFrom_160 (d' := d - 1) (rest := []) hn (by omega) (by decide) (c_move (st := st) (t := tn F N) (by omega) hn hYS gP m1 m2 m3 (fun p hp => by have := g4 p hp; omega) hNt (tn_ge hf) ⟨fun p hp => by rw [y7 101 (by omega), p4.1 p hp], by rw [y7 87 (by omega), p4.2]⟩) (fun v V hv => ?_)
            obtain ⟨rfl, v1, v2, v3, v4⟩ := hv
            have hN' : Nb F P (mv N f e) := hN.mv hf m1
            have etn : tn F (mv N f e) = tU (tn F N) e.1 e.2 (N f e.1) := tn_mv hf (by rw [hN0 f (Nat.le_refl _), m4]) m3
            have hPV : Pl n X L F P st N0 V (tn F (mv N f e)) (s'.1 - 1, false, s'.2.2) := ⟨v1, fun k h1 h2 h3 h4 => by rw [v2 k h1 h2, y7 k h3, p2 k h1 h2 h3 h4], fun j h1 h2 h3 h4 h5 => by rw [v3 j h1, y7 87 (by omega), p3 j h1 h2 h3 h4 h5], by rw [etn]; exact v4, p5, by rw [v3 13 (by omega), y7 87 (by omega)]; exact p6, p7.same (fun t ht => by rw [v3 t (by omega), y7 87 (by omega)]) (by rw [v2 108 (by omega) (by omega), y7 108 (by omega)])⟩
            have v107 : V 107 = Y 107 := v2 107 (by omega) (by omega)
            refine bX8_seekFrom_163_0 hn v1 (by omega) ?_
            rw [v2 106 (by omega) (by omega), y7 106 (by omega), up_ne (by omega), w2 106 (by omega) (by omega) (by omega) (by omega), x6]
            have hE2 := ih (by omega) (d - 1) (mv N f e) (a + sr f e) (b + 1) (rwU r f (some e)) (s'.1 - 1, false, s'.2.2) V (by omega) hN' (fun f' hf' => by
              rw [← hN0 f' (by omega)]
              funext p
              show (if f' = f then _ else N f' p) = N f' p
              rw [if_neg (by omega)]) (by omega) (by omega) hPV (fun f' hf' => by
              unfold rwU
              rw [v107, hY]
              by_cases c : f' = f
              · rw [if_pos c, c, up_it]
                exact ⟨j + i, by omega, rfl, x3, x4, x5, by omega, by omega, m3⟩
              · rw [if_neg c, up_at c, up_ne (by omega), hr' f' (by omega)]
                exact hr f' (by omega))
            rw [ef1, ← nI_1, ← nI_add, ← nI_1] at hE2
            refine qX8_seekFrom_179 (d' := d - 1) (rest := []) hn (by omega) (by decide) hE2 (fun v U hv => ?_)
            obtain ⟨rfl, hU, u107⟩ := hv
            obtain ⟨u1, u2, u3, u4, u5, u6, u7⟩ := id hU
            refine bX8_seekFrom_182_0 hn u1 (by omega) ?_
            rw [u2 103 (by omega) (by omega) (by omega) (by omega), u2 104 (by omega) (by omega) (by omega) (by omega), u2 105 (by omega) (by omega) (by omega) (by omega), x3, x4, x5, ← eN]
            have hmt : N f e.1 ≤ tn F (mv N f e) e.2 := by
              rw [etn]
              unfold tU
              rw [if_pos rfl]
              omega
            refine qX8_seekFrom_204 (d' := d - 1) (rest := []) hn (by omega) (by decide) (c_move (st := st) (t := tn F (mv N f e)) (by omega) hn u1 gP m2 m1 (Ne.symm m3) (fun p hp => by have := g4 p hp; omega) (fun p hp => by
              have h1 := hN'.tnl gF hp
              have h2 := hN f hf _ m1
              omega) hmt u4) (fun v T hv => ?_)
            obtain ⟨rfl, t1, t2, t3, t4⟩ := hv
            have hback : tU (tn F (mv N f e)) e.2 e.1 (N f e.1) = tn F N := by rw [etn]; exact tU_back (tn_ge hf) m3
            rw [hback] at t4
            refine bX8_seekFrom_207_0 hn t1 ?_
            rw [nI_1, show j + i + 1 = j + (i + 1) by omega]
            refine ihl (i + 1) _ T htl (by omega) ⟨t1, fun k h1 h2 h3 h4 => by rw [t2 k h1 h2, u2 k h1 h2 h3 h4], fun j h1 h2 h3 h4 h5 => by rw [t3 j h1, u3 j h1 h2 h3 h4 h5], t4, u5, by rw [t3 13 (by omega)]; exact u6, u7.same (fun t ht => by rw [t3 t (by omega)]) (t2 108 (by omega) (by omega))⟩ (fun f' hf' => ?_)
            rw [t2 107 (by omega) (by omega), u107 f' (by omega), v107, hY, up_at (by omega), up_ne (by omega), hr' f' hf']
    refine bX8_seekFrom_76_0 hn hW.1 (by omega) ?_
    rw [hW.2.1 102 (by omega) (by omega) (by omega) (by omega), j1]
    exact loop (Pr f) 0 _ W rfl (by omega) hW (fun f' hf' => by rw [w107 f' (by omega), up_at (by omega)])
end PLS
