/-! PLAN, 3: the model's planFrom and trySwap. -/
def Md : Option (Nat × Nat) → Int32
  | none => -1
  | some e => nI (100 * e.1 + e.2)
def cl (lg : Nat → Bool) (a P : Nat) : Nat → List (Nat × Nat)
  | 0 => []
  | r + 1 => if lg (P - (r + 1)) = true then (a, P - (r + 1)) :: cl lg a P r else cl lg a P r
def gl (lg : Nat → Nat → Bool) (P : Nat) : Nat → List (Nat × Nat)
  | 0 => []
  | r + 1 => cl (lg (P - (r + 1))) (P - (r + 1)) P P ++ gl lg P r
theorem cl_s (lg : Nat → Bool) (a P r : Nat) : cl lg a P (r + 1) = if lg (P - (r + 1)) = true then (a, P - (r + 1)) :: cl lg a P r else cl lg a P r := rfl
theorem gl_s (lg : Nat → Nat → Bool) (P r : Nat) : gl lg P (r + 1) = cl (lg (P - (r + 1))) (P - (r + 1)) P P ++ gl lg P r := rfl
theorem cl_mem {lg : Nat → Bool} {a P : Nat} {e : Nat × Nat} : ∀ {r : Nat}, r ≤ P → e ∈ cl lg a P r → e.1 = a ∧ e.2 < P ∧ lg e.2 = true
  | 0, _, h => by cases h
  | r + 1, hr, h => by
    rw [cl_s] at h
    by_cases c : lg (P - (r + 1)) = true
    · rw [if_pos c] at h
      rcases List.mem_cons.mp h with q | q
      · subst q; exact ⟨rfl, by show P - (r + 1) < P; omega, c⟩
      · exact cl_mem (by omega) q
    · rw [if_neg c] at h; exact cl_mem (by omega) h
theorem gl_mem {lg : Nat → Nat → Bool} {P : Nat} {e : Nat × Nat} : ∀ {r : Nat}, r ≤ P → e ∈ gl lg P r → e.1 < P ∧ e.2 < P ∧ lg e.1 e.2 = true
  | 0, _, h => by cases h
  | r + 1, hr, h => by
    rw [gl_s] at h
    rcases List.mem_append.mp h with q | q
    · obtain ⟨h1, h2, h3⟩ := cl_mem (Nat.le_refl _) q
      refine ⟨by omega, h2, ?_⟩
      rw [h1]; exact h3
    · exact gl_mem (by omega) q
/-- the swap that may be -/
def lgA (A : Nat → Int32) (N0 : Nat → Nat → Nat) (f a c : Nat) : Bool := decide (0 < N0 f a ∧ N0 f c = 0 ∧ A (10 + 8 * a + 3) = A (10 + 8 * c + 3) ∧ A (10 + 8 * c + 0) &&& A (448 + 15 * f + 0) = 0)
def srA (un : Nat → Nat → Nat) (N0 : Nat → Nat → Nat) (f : Nat) (e : Nat × Nat) : Nat := N0 f e.1 * un e.1 e.2 / 100
def prA (A : Nat → Int32) (N0 : Nat → Nat → Nat) (P f : Nat) : List (Nat × Nat) := gl (lgA A N0 f) P P
def Gm (X : LX) (F P : Nat) (st : Nat → Nat) (un : Nat → Nat → Nat) : Prop := (F ≤ 12 ∧ P ≤ 14) ∧ X 134 6 = nI F ∧ X 134 4 = nI P ∧ num X 134 7 40 ∧ (∀ p, p < P → st p < 2 ^ 29 ∧ mStock X (nI p) = nI (st p)) ∧ ∀ a, a < 14 → ∀ c, c < 14 → un a c ≤ 99 ∧ X 134 (122 + 14 * a + c) = nI (un a c)
def pBm (F : Nat) (Z : LX) : Option (Nat × Nat × PRow) → Prop
  | none => Z 133 28 = -1
  | some q => Z 133 28 = nI q.1 ∧ Z 133 29 = nI q.2.1 ∧ q.1 ≤ 1000000 ∧ q.2.1 ≤ 12 ∧ ∀ f, f < F → Z 144 f = Md (q.2.2 f)
def Pm (n : Nat) (X : LX) (F P : Nat) (Z : LX) (N : Nat → Nat → Nat) (s : PS) : Prop := Sh n Z ∧ (∀ k, k ≠ 133 → k ≠ 140 → k ≠ 143 → k ≠ 144 → Z k = X k) ∧ (∀ j, j ≠ 21 → j ≠ 22 → j ≠ 28 → j ≠ 29 → Z 133 j = X 133 j) ∧ (∀ f, f < F → ∀ p, p < P → Z 140 (14 * f + p) = nI (N f p)) ∧ s.1 ≤ 5000 ∧ Z 133 21 = nI s.1 ∧ Z 133 22 = (if s.2.1 = true then 1 else 0) ∧ pBm F Z s.2.2
theorem mv_at {N : Nat → Nat → Nat} {f : Nat} {e : Nat × Nat} {f' p : Nat} : mv N f e f' p = if f' = f then (if p = e.2 then N f e.1 else if p = e.1 then 0 else N f p) else N f' p := rfl
theorem mv_back {N : Nat → Nat → Nat} {f : Nat} {e : Nat × Nat} (hc : N f e.2 = 0) (hne : e.1 ≠ e.2) : mv (mv N f e) f (e.2, e.1) = N := by
  funext f' p
  rw [mv_at, mv_at, mv_at, mv_at]
  by_cases c : f' = f
  · rw [if_pos c, c]
    show (if p = e.1 then (if f = f then (if e.2 = e.2 then N f e.1 else _) else _) else if p = e.2 then 0 else _) = _
    by_cases c1 : p = e.1
    · rw [if_pos c1, if_pos rfl, if_pos rfl, c1]
    · rw [if_neg c1]
      by_cases c2 : p = e.2
      · rw [if_pos c2, c2, hc]
      · rw [if_neg c2, if_pos rfl, if_neg c2, if_neg c1]
  · rw [if_neg c, if_neg c]
section PLM
variable {g : GG} {n F P : Nat} {X : LX} {st : Nat → Nat} {un : Nat → Nat → Nat} {N0 : Nat → Nat → Nat} {post : Option Value → LX → Prop}
theorem pBm.same {Z Z' : LX} {o : Option (Nat × Nat × PRow)} (h : pBm F Z o) (he : ∀ t, t = 28 ∨ t = 29 → Z' 133 t = Z 133 t) (h8 : Z' 144 = Z 144) : pBm F Z' o := by
  cases o with
  | none => show Z' 133 28 = -1; rw [he 28 (by omega)]; exact h
  | some q =>
    obtain ⟨h1, h2, h3, h4, h5⟩ := h
    exact ⟨by rw [he 28 (by omega)]; exact h1, by rw [he 29 (by omega)]; exact h2, h3, h4, by rw [h8]; exact h5⟩
theorem c_moves {d f a c : Nat} {Z : LX} (hn : 146 ≤ n) (hZ : Sh n Z) (hf : f < 12) (ha : a < 14) (hc : c < 14) : Ex g mX12_moves d n n [.ref 133, .int (nI f), .int (nI a), .int (nI c)] Z (rv (lx_up (lx_up Z 140 (14 * f + c) (Z 140 (14 * f + a))) 140 (14 * f + a) 0)) :=
  e_of vX12_moves (Nat.le_of_ble_eq_true rfl) (cat_of rfl) (bX12_moves_0_0 hn hZ (by omega) (by omega) ⟨rfl, rfl⟩)
theorem moved {Z : LX} {N : Nat → Nat → Nat} {f : Nat} {e : Nat × Nat} (hP : P ≤ 14) (hf : f < F) (h1 : e.1 < P) (h2 : e.2 < P) (hne : e.1 ≠ e.2) (h : ∀ f, f < F → ∀ p, p < P → Z 140 (14 * f + p) = nI (N f p)) : ∀ f', f' < F → ∀ p, p < P → lx_up (lx_up Z 140 (14 * f + e.2) (Z 140 (14 * f + e.1))) 140 (14 * f + e.1) 0 140 (14 * f' + p) = nI (mv N f e f' p) := by
  intro f' hf' p hp
  rw [mv_at]
  by_cases c : f' = f
  · subst c
    rw [if_pos rfl]
    by_cases c1 : p = e.2
    · rw [if_pos c1, c1, up_at (by omega), up_it, h f' hf' _ h1]
    · rw [if_neg c1]
      by_cases c2 : p = e.1
      · rw [if_pos c2, c2, up_it]; rfl
      · rw [if_neg c2, up_at (by omega), up_at (by omega), h f' hf' p hp]
  · rw [if_neg c, up_at (by omega), up_at (by omega), h f' hf' p hp]
theorem k_maySwap {d f a c : Nat} {Z : LX} {N : Nat → Nat → Nat} {s : PS} (hd : 1 ≤ d) (hn : 146 ≤ n) (hG : Gm X F P st un) (hZ : Pm n X F P Z N s) (hf : f < F) (ha : a < P) (hc : c < P) (hb : N f a ≤ 60000 ∧ N f c ≤ 60000) : Ex g mX12_maySwap d n n [.ref 133, .int (nI f), .int (nI a), .int (nI c)] Z (rt (if lgA (X 134) N f a c = true then 1 else 0) Z) := by
  obtain ⟨z1, z2, z3, z4, -⟩ := id hZ
  obtain ⟨⟨gF, gP⟩, -⟩ := id hG
  have z134 : Z 134 = X 134 := z2 134 (by omega) (by omega) (by omega) (by omega)
  have i1 : Z 140 (14 * f + a) ≤ 0 ↔ ¬ 0 < N f a := by
    rw [z4 f hf a ha]
    have := nI_leI (a := N f a) (b := 0) (by omega) (by omega)
    rw [nI_0] at this
    rw [this]
    omega
  have i2 : Z 140 (14 * f + c) = 0 ↔ N f c = 0 := by
    rw [z4 f hf c hc]
    exact nI_eq (b := 0) (by omega) (by omega)
  refine e_of vX12_maySwap (Nat.le_of_ble_eq_true rfl) (cat_of rfl) ?_
  unfold lgA
  rw [← z134]
  by_cases c1 : 0 < N f a
  · have k1 : ¬ Z 140 (14 * f + a) ≤ 0 := fun w => i1.mp w c1
    by_cases c2 : N f c = 0
    · by_cases c3 : Z 134 (10 + 8 * a + 3) = Z 134 (10 + 8 * c + 3)
      · by_cases c4 : Z 134 (10 + 8 * c + 0) &&& Z 134 (448 + 15 * f + 0) = 0
        · rw [if_pos (decide_eq_true ⟨c1, c2, c3, c4⟩)]
          exact bX12_maySwap_0_0 hd hn z1 (by omega) k1 (by omega) (i2.mpr c2) (by omega) (by omega) c3 (by omega) (by omega) c4 ⟨rfl, rfl⟩
        · rw [if_neg (fun w => c4 (of_decide_eq_true w).2.2.2)]
          exact bX12_maySwap_0_1 hd hn z1 (by omega) k1 (by omega) (i2.mpr c2) (by omega) (by omega) c3 (by omega) (by omega) c4 ⟨rfl, rfl⟩
      · rw [if_neg (fun w => c3 (of_decide_eq_true w).2.2.1)]
        exact bX12_maySwap_0_2 hd hn z1 (by omega) k1 (by omega) (i2.mpr c2) (by omega) (by omega) c3 ⟨rfl, rfl⟩
    · rw [if_neg (fun w => c2 (of_decide_eq_true w).2.1)]
      by_cases c3 : Z 134 (10 + 8 * a + 3) = Z 134 (10 + 8 * c + 3)
      · exact bX12_maySwap_0_3 hd hn z1 (by omega) k1 (by omega) (fun w => c2 (i2.mp w)) (by omega) (by omega) c3 ⟨rfl, rfl⟩
      · exact bX12_maySwap_0_4 hd hn z1 (by omega) k1 (by omega) (fun w => c2 (i2.mp w)) (by omega) (by omega) c3 ⟨rfl, rfl⟩
  · rw [if_neg (fun w => c1 (of_decide_eq_true w).1)]
    by_cases c3 : Z 134 (10 + 8 * a + 3) = Z 134 (10 + 8 * c + 3)
    · exact bX12_maySwap_0_5 hd hn z1 (by omega) (i1.mpr c1) (by omega) (by omega) c3 ⟨rfl, rfl⟩
    · exact bX12_maySwap_0_6 hd hn z1 (by omega) (i1.mpr c1) (by omega) (by omega) c3 ⟨rfl, rfl⟩
theorem k_isEnough {d : Nat} {Z : LX} {N : Nat → Nat → Nat} {s : PS} (hd : 2 ≤ d) (hn : 146 ≤ n) (hG : Gm X F P st un) (hN : Nb F P N) (hZ : Pm n X F P Z N s) : Ex g mX12_isEnough d n n [.ref 133] Z (rt (if enC F P st N = true then 1 else 0) Z) := by
  obtain ⟨z1, z2, z3, z4, -⟩ := id hZ
  obtain ⟨⟨gF, gP⟩, g6, g4, g7, gs, -⟩ := id hG
  have z134 : Z 134 = X 134 := z2 134 (by omega) (by omega) (by omega) (by omega)
  have hst : ∀ p, p < P → mStock Z (nI p) = nI (st p) := fun p hp => by
    rw [← (gs p hp).2]
    unfold mStock
    rw [z134]
  have hnd : ∀ p, p < P → mNeedAll Z p = nI (tn F N p) := fun p hp => by
    unfold mNeedAll
    rw [z134, g6, ix_nI (by omega)]
    exact sum_nI (fun f hf => z4 f hf p hp)
  refine e_of vX12_isEnough (Nat.le_of_ble_eq_true rfl) (cat_of rfl) (bX12_isEnough_0_0 hn z1 ?_)
  have loop : ∀ i, i ≤ P → Ev g mX12_isEnough d n n (rt (if enC F P st N = true then 1 else 0) Z) n 4 [some (.ref 133), some (.int (if enC F i st N = true then 1 else 0)), some (.int (nI i))] [] Z := by
    refine down ?_ ?_
    · refine bX12_isEnough_4_3 hn z1 (by rw [z134, g4]; exact Int32.le_refl _) ?_ ⟨rfl, rfl⟩
      by_cases c : enC F P st N = true
      · rw [if_pos c]; exact Or.inr rfl
      · rw [if_neg c]; exact Or.inl rfl
    · intro i hi k
      have c0 : ¬ Z 134 4 ≤ nI i := by rw [z134, g4]; exact nI_ge hi (by omega)
      rw [← nI_1] at k
      have es : enC F (i + 1) st N = true ↔ enC F i st N = true ∧ tn F N i ≤ st i := by
        unfold enC
        rw [decide_eq_true_iff, decide_eq_true_iff]
        constructor
        · intro h; exact ⟨fun p hp => h p (Nat.lt_succ_of_lt hp), h i (Nat.lt_succ_self i)⟩
        · rintro ⟨h1, h2⟩ p hp
          rcases Nat.lt_succ_iff_lt_or_eq.mp hp with q | q
          · exact h1 p q
          · subst q; exact h2
      by_cases c : enC F i st N = true
      · rw [if_pos c]
        have hlt : mStock Z (nI i) < mNeedAll Z i ↔ st i < tn F N i := by
          rw [hst i hi, hnd i hi]
          have := (gs i hi).1
          have := hN.tnl gF hi
          exact nI_ltI (by omega) (by omega)
        by_cases c2 : tn F N i ≤ st i
        · rw [if_pos (es.mpr ⟨c, c2⟩)] at k
          exact bX12_isEnough_4_0 hd hn z1 c0 (by decide) (by omega) ⟨F, gF, by rw [z134, g6]⟩ (by rw [num_cg z134]; exact g7) (fun w => by have := hlt.mp w; omega) k
        · rw [if_neg (fun w => c2 (es.mp w).2)] at k
          exact bX12_isEnough_4_1 hd hn z1 c0 (by decide) (by omega) ⟨F, gF, by rw [z134, g6]⟩ (by rw [num_cg z134]; exact g7) (hlt.mpr (by omega)) k
      · rw [if_neg c]
        rw [if_neg (fun w => c (es.mp w).1)] at k
        exact bX12_isEnough_4_2 hn z1 c0 rfl k
  have e0 : enC F 0 st N = true := decide_eq_true (fun p hp => absurd hp (Nat.not_lt_zero _))
  have := loop 0 (Nat.zero_le _)
  rw [if_pos e0] at this
  exact this
/-- the entry -/
theorem pm_in {d f a b : Nat} {Z : LX} {N : Nat → Nat → Nat} {s : PS} (hn : 146 ≤ n) (hG : Gm X F P st un) (hZ : Pm n X F P Z N s) (hf : f ≤ F) (ha : a ≤ 1000000) (hb : b ≤ 12) (hp : pPr s.2.2 a b = true → post none Z) (h1 : pPr s.2.2 a b = false → f = F → Ev g mX12_planFrom d n n post n 44 [some (.ref 133), some (.int (nI f)), some (.int (nI a)), some (.int (nI b)), none, none] [.ref 133] Z) (h3 : pPr s.2.2 a b = false → f < F → Ev g mX12_planFrom d n n post n 97 [some (.ref 133), some (.int (nI f)), some (.int (nI a)), some (.int (nI b)), none, none] [.int (nI b), .int (nI a), .int (nI f + 1), .ref 133] Z) : Ev g mX12_planFrom d n n post n 0 [some (.ref 133), some (.int (nI f)), some (.int (nI a)), some (.int (nI b)), none, none] [] Z := by
  obtain ⟨z1, z2, z3, z4, z5, z6, z7, z8⟩ := id hZ
  obtain ⟨⟨gF, gP⟩, g6, -⟩ := id hG
  have heq : nI f = Z 134 6 ↔ f = F := by rw [z2 134 (by omega) (by omega) (by omega) (by omega), g6]; exact nI_eq (by omega) (by omega)
  cases hs : s.2.2 with
  | none =>
    rw [hs] at z8 hp h1 h3
    have c0 : Z 133 28 < 0 := by rw [show Z 133 28 = -1 from z8]; decide
    by_cases cf : f = F
    · exact bX12_planFrom_0_6 hn z1 c0 (heq.mpr cf) (h1 rfl cf)
    · exact bX12_planFrom_0_7 hn z1 c0 (fun w => cf (heq.mp w)) (h3 rfl (by omega))
  | some q =>
    rw [hs] at z8 hp h1 h3
    obtain ⟨q2, q3, q4, q5, -⟩ := z8
    have c0 : ¬ Z 133 28 < 0 := by rw [q2]; exact nI_pos (by omega)
    have i1 : Z 133 28 < nI a ↔ q.1 < a := by rw [q2]; exact nI_ltI (by omega) (by omega)
    have i2 : nI a = Z 133 28 ↔ a = q.1 := by rw [q2]; exact nI_eq (by omega) (by omega)
    have i3 : nI b < Z 133 29 ↔ b < q.2.1 := by rw [q3]; exact nI_ltI (by omega) (by omega)
    by_cases c1 : q.1 < a
    · exact bX12_planFrom_0_5 hn z1 c0 (i1.mpr c1) (hp (decide_eq_true (Or.inl c1)))
    · have c1' : ¬ Z 133 28 < nI a := fun w => c1 (i1.mp w)
      by_cases c2 : a = q.1
      · by_cases c3 : b < q.2.1
        · have hpf : pPr (some q) a b = false := decide_eq_false (fun w => by omega)
          by_cases cf : f = F
          · exact bX12_planFrom_0_1 hn z1 c0 c1' (i2.mpr c2) (i3.mpr c3) (heq.mpr cf) (h1 hpf cf)
          · exact bX12_planFrom_0_2 hn z1 c0 c1' (i2.mpr c2) (i3.mpr c3) (fun w => cf (heq.mp w)) (h3 hpf (by omega))
        · exact bX12_planFrom_0_0 hn z1 c0 c1' (i2.mpr c2) (fun w => c3 (i3.mp w)) (hp (decide_eq_true (Or.inr ⟨c2, by omega⟩)))
      · have hpf : pPr (some q) a b = false := decide_eq_false (fun w => by omega)
        by_cases cf : f = F
        · exact bX12_planFrom_0_3 hn z1 c0 c1' (fun w => c2 (i2.mp w)) (heq.mpr cf) (h1 hpf cf)
        · exact bX12_planFrom_0_4 hn z1 c0 c1' (fun w => c2 (i2.mp w)) (fun w => cf (heq.mp w)) (h3 hpf (by omega))
end PLM
