/-! PLAN, 10: pack: the draw from the lots, once; the class's draw. -/
abbrev pS1 (pt : Nat → Bool) (lf : Nat → Nat) (i : Nat) : Nat := nsum (fun l => if pt l = true then lf l else 0) i
theorem pS1_s (pt : Nat → Bool) (lf : Nat → Nat) (i : Nat) : pS1 pt lf (i + 1) = pS1 pt lf i + (if pt i = true then lf i else 0) := rfl
theorem pS1_mono {pt : Nat → Bool} {lf : Nat → Nat} {i : Nat} : ∀ k, pS1 pt lf i ≤ pS1 pt lf (i + k)
  | 0 => Nat.le_refl _
  | k + 1 => by
    have := pS1_mono (pt := pt) (lf := lf) (i := i) k
    have := pS1_s pt lf (i + k)
    rw [show i + (k + 1) = i + k + 1 from rfl]
    omega
/-- left and who got of the lots behind a draw of o grams -/
def lfN (pt : Nat → Bool) (lf : Nat → Nat) (o L : Nat) : Nat → Nat := fun l => if l < L ∧ pt l = true then lf l - (o - pS1 pt lf l) else lf l
def gtN (pt : Nat → Bool) (lf : Nat → Nat) (o L : Nat) (b : Int32) (gt : Nat → Int32) : Nat → Int32 := fun l => if l < L ∧ pt l = true ∧ 0 < o - pS1 pt lf l ∧ 0 < lf l then gt l ||| b else gt l
theorem lfN_le {pt : Nat → Bool} {lf : Nat → Nat} {o L l : Nat} : lfN pt lf o L l ≤ lf l := by
  unfold lfN
  by_cases c : l < L ∧ pt l = true
  · rw [if_pos c]; omega
  · rw [if_neg c]; exact Nat.le_refl _
theorem lfN_sum {pt : Nat → Bool} {lf : Nat → Nat} {o L : Nat} : ∀ {i : Nat}, i ≤ L → pS1 pt (lfN pt lf o L) i = pS1 pt lf i - o
  | 0, _ => by show 0 = 0 - o; omega
  | i + 1, hi => by
    rw [pS1_s, pS1_s, lfN_sum (by omega)]
    by_cases c : pt i = true
    · rw [if_pos c, if_pos c]
      unfold lfN
      rw [if_pos ⟨by omega, c⟩]
      omega
    · rw [if_neg c, if_neg c]; omega
theorem lfN_oth {pt pt' : Nat → Bool} {lf : Nat → Nat} {o L : Nat} (h : ∀ l, pt' l = true → pt l = false) : ∀ {i : Nat}, pS1 pt' (lfN pt lf o L) i = pS1 pt' lf i
  | 0 => rfl
  | i + 1 => by
    rw [pS1_s, pS1_s, lfN_oth h]
    by_cases c : pt' i = true
    · rw [if_pos c, if_pos c]
      unfold lfN
      rw [if_neg (fun w => by rw [h i c] at w; exact absurd w.2 (by decide))]
    · rw [if_neg c, if_neg c]
theorem mn_nI {a b : Nat} (ha : a < 2 ^ 31) (hb : b < 2 ^ 31) : (if nI a < nI b then nI a else nI b) = nI (min a b) := by
  by_cases c : a < b
  · rw [if_pos (nI_lt c hb), Nat.min_eq_left (by omega)]
  · rw [if_neg (nI_nlt (by omega) ha), Nat.min_eq_right (by omega)]
/-- left, who got, packed, all -/
abbrev DS : Type := (Nat → Nat) × (Nat → Int32) × (Nat → Int32) × Int32
def dst (pt : Nat → Nat → Bool) (L f p o : Nat) (s : DS) : DS := (lfN (pt p) s.1 o L, gtN (pt p) s.1 o L (1 <<< (nI f &&& 31)) s.2.1, (fun p' => if p' = p then s.2.2.1 p + nI o else s.2.2.1 p'), s.2.2.2 + nI o)
def dPa (pt : Nat → Nat → Bool) (L f : Nat) (row : Nat → Nat) (P : Nat) : Nat → DS → DS
  | 0, s => s
  | r + 1, s => dPa pt L f row P r (dst pt L f (P - (r + 1)) (row (P - (r + 1))) s)
def dFa (pt : Nat → Nat → Bool) (L : Nat) (N : Nat → Nat → Nat) (F P : Nat) : Nat → DS → DS
  | 0, s => s
  | r + 1, s => dFa pt L N F P r (dPa pt L (F - (r + 1)) (N (F - (r + 1))) P P s)
theorem dPa_s (pt : Nat → Nat → Bool) (L f : Nat) (row : Nat → Nat) (P r : Nat) (s : DS) : dPa pt L f row P (r + 1) s = dPa pt L f row P r (dst pt L f (P - (r + 1)) (row (P - (r + 1))) s) := rfl
theorem dFa_s (pt : Nat → Nat → Bool) (L : Nat) (N : Nat → Nat → Nat) (F P r : Nat) (s : DS) : dFa pt L N F P (r + 1) s = dFa pt L N F P r (dPa pt L (F - (r + 1)) (N (F - (r + 1))) P P s) := rfl
def mvO (N0 : Nat → Nat → Nat) (f : Nat) : Option (Nat × Nat) → Nat → Nat
  | none => N0 f
  | some e => mv N0 f e f
/-- the best row is enough -/
def OkB (F P : Nat) (st : Nat → Nat) (N0 : Nat → Nat → Nat) (o : Option (Nat × Nat × PRow)) : Prop := ∀ q, o = some q → enC F P st (fun f => mvO N0 f (q.2.2 f)) = true
theorem pL_ok {F P : Nat} {st : Nat → Nat} {N0 : Nat → Nat → Nat} {step : Nat × Nat → PS → PS} : ∀ {l : List (Nat × Nat)}, (∀ e s, e ∈ l → OkB F P st N0 s.2.2 → OkB F P st N0 (step e s).2.2) → ∀ {s : PS}, OkB F P st N0 s.2.2 → OkB F P st N0 (pL step l s).2.2
  | [], _, s, h => h
  | e :: l, hs, s, h => by
    rw [pL_s]
    by_cases c : s.2.1 = true
    · rw [if_pos c]; exact h
    · rw [if_neg c]
      by_cases c2 : s.1 = 0
      · rw [if_pos c2]; exact h
      · rw [if_neg c2]
        exact pL_ok (fun e' s' he' => hs e' s' (List.mem_cons_of_mem _ he')) (hs e _ List.mem_cons_self h)
theorem pS_ok {F P : Nat} {st : Nat → Nat} {N0 : Nat → Nat → Nat} {Pr : Nat → List (Nat × Nat)} {sr : Nat → Nat × Nat → Nat} : ∀ (k : Nat), k ≤ F → ∀ (N : Nat → Nat → Nat) (a b : Nat) (r : PRow) (s : PS), (∀ f, f < F - k → N f = mvO N0 f (r f)) → (∀ f, F - k ≤ f → N f = N0 f) → OkB F P st N0 s.2.2 → OkB F P st N0 (pS F (enC F P st) Pr sr k N a b r s).2.2 := by
  intro k
  induction k with
  | zero =>
    intro _ N a b r s h1 h2 h
    rw [pS_0]
    by_cases c : pPr s.2.2 a b = true
    · rw [if_pos c]; exact h
    · rw [if_neg c]
      by_cases c2 : enC F P st N = true
      · rw [if_pos c2]
        intro q hq
        have e : (a, b, r) = q := Option.some.inj hq
        rw [← e]
        have h3 := of_decide_eq_true c2
        refine decide_eq_true (fun p hp => ?_)
        have h4 : tn F (fun f => mvO N0 f (r f)) p = tn F N p := nsum_cg (fun f hf => by
          show mvO N0 f (r f) p = N f p
          rw [h1 f (by omega)])
        show tn F (fun f => mvO N0 f (r f)) p ≤ st p
        rw [h4]
        exact h3 p hp
      · rw [if_neg c2]; exact h
  | succ k ih =>
    intro hk N a b r s h1 h2 h
    obtain ⟨f, ef⟩ : ∃ f, f = F - (k + 1) := ⟨_, rfl⟩
    rw [pS_s]
    rw [← ef] at h1 h2 ⊢
    by_cases c : pPr s.2.2 a b = true
    · rw [if_pos c]; exact h
    · rw [if_neg c]
      refine pL_ok (fun e s' _ hs' => ?_) ?_
      · refine ih (by omega) _ _ _ _ _ (fun f' hf' => ?_) (fun f' hf' => ?_) hs'
        · unfold rwU
          by_cases c1 : f' = f
          · rw [if_pos c1, c1]
            funext p
            show mv N f e f p = mv N0 f e f p
            rw [mv_at, mv_at, h2 f (Nat.le_refl _)]
          · rw [if_neg c1, ← h1 f' (by omega)]
            funext p
            rw [mv_at, if_neg c1]
        · rw [← h2 f' (by omega)]
          funext p
          rw [mv_at, if_neg (by omega)]
      · refine ih (by omega) _ _ _ _ _ (fun f' hf' => ?_) (fun f' hf' => h2 f' (by omega)) h
        unfold rwU
        by_cases c1 : f' = f
        · rw [if_pos c1, c1, h2 f (Nat.le_refl _)]; rfl
        · rw [if_neg c1, h1 f' (by omega)]
section PK
variable {g : GG} {d n F P L : Nat} {X : LX} {N0 : Nat → Nat → Nat}
def Lt (Z : LX) (L : Nat) (s : DS) : Prop := Z 69 0 = nI L ∧ (∀ l, l < 40 → s.1 l ≤ 99999 ∧ Z 73 l = nI (s.1 l) ∧ Z 74 l = s.2.1 l) ∧ ∀ p, p < 14 → Z 75 p = s.2.2.1 p
abbrev ptC (X : LX) : Nat → Nat → Bool := fun p l => decide (X 70 l = nI p)
theorem c_draw {p o f : Nat} {Z : LX} {s : DS} (hd : 1 ≤ d) (hn : 146 ≤ n) (hZ : Sh n Z) (hL : L ≤ 40) (hp : p < 14) (ho : o < 2 ^ 29) (h70 : Z 70 = X 70) (hs : Lt Z L s) (hen : o ≤ pS1 (ptC X p) s.1 L) : Ex g mX4_draw d n n [.ref 69, .int (nI p), .int (nI o), .int (nI f)] Z (fun v Z' => v = none ∧ Sh n Z' ∧ (∀ k, k ≠ 73 → k ≠ 74 → k ≠ 75 → Z' k = Z k) ∧ Lt Z' L (dst (ptC X) L f p o s)) := by
  obtain ⟨s69, s1, s2⟩ := id hs
  refine e_of vX4_draw (Nat.le_of_ble_eq_true rfl) (cat_of rfl) (bX4_draw_0_0 hn hZ ?_)
  have fin : ∀ (i : Nat) (W : LX), i ≤ L → o - pS1 (ptC X p) s.1 i = 0 → Sh n W → (∀ k, k ≠ 73 → k ≠ 74 → k ≠ 75 → W k = Z k) → (∀ l, l < 40 → W 73 l = nI (lfN (ptC X p) s.1 o i l) ∧ W 74 l = gtN (ptC X p) s.1 o i (1 <<< (nI f &&& 31)) s.2.1 l) → (∀ p', p' < 14 → W 75 p' = if p' = p then s.2.2.1 p + nI (min o (pS1 (ptC X p) s.1 i)) else s.2.2.1 p') → (none : Option Value) = none ∧ Sh n W ∧ (∀ k, k ≠ 73 → k ≠ 74 → k ≠ 75 → W k = Z k) ∧ Lt W L (dst (ptC X) L f p o s) := by
    intro i W hi h0 hW wk w1 w2
    have hz : ∀ l, i ≤ l → o - pS1 (ptC X p) s.1 l = 0 := fun l hl => by
      have := pS1_mono (pt := ptC X p) (lf := s.1) (i := i) (l - i)
      rw [show i + (l - i) = l by omega] at this
      omega
    refine ⟨rfl, hW, wk, by rw [wk 69 (by omega) (by omega) (by omega), s69], fun l hl => ⟨Nat.le_trans lfN_le (s1 l hl).1, ?_, ?_⟩, fun p' hp' => ?_⟩
    · rw [(w1 l hl).1]
      show nI (lfN (ptC X p) s.1 o i l) = nI (lfN (ptC X p) s.1 o L l)
      unfold lfN
      by_cases c : l < i
      · by_cases c2 : ptC X p l = true
        · rw [if_pos ⟨c, c2⟩, if_pos ⟨by omega, c2⟩]
        · rw [if_neg (fun w => c2 w.2), if_neg (fun w => c2 w.2)]
      · rw [if_neg (fun w => c w.1), hz l (by omega), Nat.sub_zero]
        by_cases c2 : l < L ∧ ptC X p l = true
        · rw [if_pos c2]
        · rw [if_neg c2]
    · rw [(w1 l hl).2]
      show gtN (ptC X p) s.1 o i (1 <<< (nI f &&& 31)) s.2.1 l = gtN (ptC X p) s.1 o L (1 <<< (nI f &&& 31)) s.2.1 l
      unfold gtN
      by_cases c : l < i
      · by_cases c2 : ptC X p l = true ∧ 0 < o - pS1 (ptC X p) s.1 l ∧ 0 < s.1 l
        · rw [if_pos ⟨c, c2⟩, if_pos ⟨by omega, c2⟩]
        · rw [if_neg (fun w => c2 w.2), if_neg (fun w => c2 w.2)]
      · rw [if_neg (fun w => c w.1), if_neg (fun w => by have := w.2.2.1; rw [hz l (by omega)] at this; omega)]
    · rw [w2 p' hp', Nat.min_eq_left (by omega)]
      rfl
  have loop : ∀ r, r ≤ L → ∀ (W : LX) (v6 : Option Value), Sh n W → (∀ k, k ≠ 73 → k ≠ 74 → k ≠ 75 → W k = Z k) → (∀ l, l < 40 → W 73 l = nI (lfN (ptC X p) s.1 o (L - r) l) ∧ W 74 l = gtN (ptC X p) s.1 o (L - r) (1 <<< (nI f &&& 31)) s.2.1 l) → (∀ p', p' < 14 → W 75 p' = if p' = p then s.2.2.1 p + nI (min o (pS1 (ptC X p) s.1 (L - r))) else s.2.2.1 p') → Ev g mX4_draw d n n (fun v Z' => v = none ∧ Sh n Z' ∧ (∀ k, k ≠ 73 → k ≠ 74 → k ≠ 75 → Z' k = Z k) ∧ Lt Z' L (dst (ptC X) L f p o s)) n 6 [some (.ref 69), some (.int (nI p)), some (.int (nI o)), some (.int (nI f)), some (.int (nI (o - pS1 (ptC X p) s.1 (L - r)))), some (.int (nI (L - r))), v6] [] W := by
    intro r
    induction r with
    | zero =>
      intro _ W v6 hW wk w1 w2
      rw [Nat.sub_zero] at w1 w2 ⊢
      exact ev_wk (L' := [some (.ref 69), some (.int (nI p)), some (.int (nI o)), some (.int (nI f)), some (.int (nI (o - pS1 (ptC X p) s.1 L))), some (.int (nI L)), none]) (by simp [lwk]) (bX4_draw_6_4 hn hW (by rw [wk 69 (by omega) (by omega) (by omega), s69]; exact Int32.le_refl _) (fin L W (Nat.le_refl _) (by omega) hW wk w1 w2))
    | succ r ih =>
      intro hr W v6 hW wk w1 w2
      obtain ⟨i, ei⟩ : ∃ i, i = L - (r + 1) := ⟨_, rfl⟩
      have ei1 : L - r = i + 1 := by omega
      have hi : i < L := by omega
      rw [← ei] at w1 w2 ⊢
      rw [ei1] at ih
      refine ev_wk (L' := [some (.ref 69), some (.int (nI p)), some (.int (nI o)), some (.int (nI f)), some (.int (nI (o - pS1 (ptC X p) s.1 i))), some (.int (nI i)), none]) (by simp [lwk]) ?_
      have c0 : ¬ W 69 0 ≤ nI i := by rw [wk 69 (by omega) (by omega) (by omega), s69]; exact nI_ge hi (by omega)
      have hsi := pS1_s (ptC X p) s.1 i
      have hl99 := (s1 i (by omega)).1
      by_cases h0 : o - pS1 (ptC X p) s.1 i = 0
      · exact bX4_draw_6_3 hn hW c0 (by rw [h0]; decide) (fin i W (by omega) h0 hW wk w1 w2)
      · have c1 : ¬ nI (o - pS1 (ptC X p) s.1 i) ≤ 0 := nI_nle (by omega) (by omega)
        have e73 : W 73 i = nI (s.1 i) := by
          rw [(w1 i (by omega)).1]
          unfold lfN
          rw [if_neg (fun w => Nat.lt_irrefl _ w.1)]
        have e74 : W 74 i = s.2.1 i := by
          rw [(w1 i (by omega)).2]
          unfold gtN
          rw [if_neg (fun w => Nat.lt_irrefl _ w.1)]
        have e70 : W 70 i = X 70 i := by rw [wk 70 (by omega) (by omega) (by omega), h70]
        have keep : (ptC X p i = true → s.1 i = 0) → (∀ l, l < 40 → W 73 l = nI (lfN (ptC X p) s.1 o (i + 1) l) ∧ W 74 l = gtN (ptC X p) s.1 o (i + 1) (1 <<< (nI f &&& 31)) s.2.1 l) ∧ pS1 (ptC X p) s.1 (i + 1) = pS1 (ptC X p) s.1 i := by
          intro hk
          constructor
          · intro l hl
            rw [(w1 l hl).1, (w1 l hl).2]
            unfold lfN gtN
            by_cases cl : l = i
            · subst cl
              have n1 : ¬ (l < l ∧ ptC X p l = true) := fun w => Nat.lt_irrefl _ w.1
              have n2 : ¬ (l < l ∧ ptC X p l = true ∧ 0 < o - pS1 (ptC X p) s.1 l ∧ 0 < s.1 l) := fun w => Nat.lt_irrefl _ w.1
              rw [if_neg n1, if_neg n2]
              by_cases c2 : ptC X p l = true
              · rw [if_pos ⟨Nat.lt_succ_self _, c2⟩, if_neg (fun w => by have := w.2.2.2; have := hk c2; omega), hk c2, Nat.zero_sub]
                exact ⟨rfl, rfl⟩
              · rw [if_neg (fun w => c2 w.2), if_neg (fun w => c2 w.2.1)]
                exact ⟨rfl, rfl⟩
            · have hlt : l < i + 1 ↔ l < i := by omega
              simp only [hlt]
              exact ⟨trivial, trivial⟩
          · rw [hsi]
            by_cases c2 : ptC X p i = true
            · rw [if_pos c2, hk c2]; rfl
            · rw [if_neg c2]; rfl
        by_cases c2 : ptC X p i = true
        · have k2 : W 70 i = nI p := by rw [e70]; exact of_decide_eq_true c2
          rw [if_pos c2] at hsi
          have emn : (if W 73 i < nI (o - pS1 (ptC X p) s.1 i) then W 73 i else nI (o - pS1 (ptC X p) s.1 i)) = nI (min (s.1 i) (o - pS1 (ptC X p) s.1 i)) := by
            rw [e73]; exact mn_nI (by omega) (by omega)
          by_cases hz : s.1 i = 0
          · obtain ⟨q1, q2⟩ := keep (fun _ => hz)
            refine bX4_draw_6_1 hd hn hW c0 c1 (by omega) k2 (by rw [emn, hz, Nat.zero_min]; decide) ?_
            rw [nI_1, ← q2]
            exact ih (by omega) W _ hW wk q1 (by rw [q2]; exact w2)
          · refine bX4_draw_6_0 hd hn hW c0 c1 (by omega) k2 (by rw [emn]; exact nI_nle (by omega) (by omega)) hp ?_
            rw [emn, e73, e74, pk_sub (Nat.min_le_left _ _), pk_sub (Nat.min_le_right _ _), nI_1, show o - pS1 (ptC X p) s.1 i - min (s.1 i) (o - pS1 (ptC X p) s.1 i) = o - pS1 (ptC X p) s.1 (i + 1) by omega]
            refine ih (by omega) _ _ (((hW.upA (by decide +kernel)).upA (by decide +kernel)).upA (by decide +kernel)) (fun k h1 h2 h3 => by rw [up_ne h3, up_ne h2, up_ne h1, wk k h1 h2 h3]) (fun l hl => ?_) (fun p' hp' => ?_)
            · refine ⟨?_, ?_⟩
              · rw [up_ne (show (73 : Nat) ≠ 75 by decide), up_ne (show (73 : Nat) ≠ 74 by decide)]
                by_cases cl : l = i
                · subst cl
                  rw [up_it]
                  unfold lfN
                  rw [if_pos ⟨Nat.lt_succ_self _, c2⟩, show s.1 l - min (s.1 l) (o - pS1 (ptC X p) s.1 l) = s.1 l - (o - pS1 (ptC X p) s.1 l) by omega]
                · rw [up_at cl, (w1 l hl).1]
                  unfold lfN
                  have hlt : l < i + 1 ↔ l < i := by omega
                  simp only [hlt]
              · rw [up_ne (show (74 : Nat) ≠ 75 by decide)]
                by_cases cl : l = i
                · subst cl
                  rw [up_it]
                  unfold gtN
                  rw [if_pos ⟨Nat.lt_succ_self _, c2, by omega, by omega⟩]
                · rw [up_at cl, up_ne (show (74 : Nat) ≠ 73 by decide), (w1 l hl).2]
                  unfold gtN
                  have hlt : l < i + 1 ↔ l < i := by omega
                  simp only [hlt]
            · by_cases cp : p' = p
              · rw [cp, up_it, w2 p hp, if_pos rfl, if_pos rfl, Int32.add_assoc, nI_add]
                congr 2
                omega
              · rw [up_at cp, up_ne (by omega), up_ne (by omega), w2 p' hp', if_neg cp, if_neg cp]
        · have k2 : ¬ W 70 i = nI p := by rw [e70]; exact fun w => c2 (decide_eq_true w)
          obtain ⟨q1, q2⟩ := keep (fun w => absurd w c2)
          refine bX4_draw_6_2 hn hW c0 c1 (by omega) k2 ?_
          rw [nI_1, ← q2]
          exact ih (by omega) W _ hW wk q1 (by rw [q2]; exact w2)
  have := loop L (Nat.le_refl _) Z none hZ (fun _ _ _ _ => rfl) (fun l hl => by
    rw [Nat.sub_self]
    unfold lfN gtN
    rw [if_neg (fun w => Nat.not_lt_zero _ w.1), if_neg (fun w => Nat.not_lt_zero _ w.1)]
    exact (s1 l hl).2) (fun p' hp' => by
    rw [Nat.sub_self, s2 p' hp']
    by_cases c : p' = p
    · rw [if_pos c, c]
      show s.2.2.1 p = s.2.2.1 p + nI (min o 0)
      rw [Nat.min_zero, nI_0, Int32.add_zero]
    · rw [if_neg c])
  rw [Nat.sub_self] at this
  exact this
end PK
