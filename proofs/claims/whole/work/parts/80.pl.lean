/-! PLAN, 1: the search once, by numbers; the class's spare and shorts. -/
abbrev PRow : Type := Nat → Option (Nat × Nat)
/-- tries left, whether they are spent, the best row: its grief, how many swaps, the swaps -/
abbrev PS : Type := Nat × Bool × Option (Nat × Nat × PRow)
def pPr : Option (Nat × Nat × PRow) → Nat → Nat → Bool
  | none, _, _ => false
  | some q, a, b => decide (q.1 < a ∨ (a = q.1 ∧ q.2.1 ≤ b))
def pL (step : Nat × Nat → PS → PS) : List (Nat × Nat) → PS → PS
  | [], s => s
  | e :: l, s => if s.2.1 = true then s else if s.1 = 0 then (0, true, s.2.2) else pL step l (step e (s.1 - 1, false, s.2.2))
def mv (N : Nat → Nat → Nat) (f : Nat) (e : Nat × Nat) : Nat → Nat → Nat := fun f' p => if f' = f then (if p = e.2 then N f e.1 else if p = e.1 then 0 else N f p) else N f' p
def rwU (r : PRow) (f : Nat) (o : Option (Nat × Nat)) : PRow := fun f' => if f' = f then o else r f'
def pS (F : Nat) (en : (Nat → Nat → Nat) → Bool) (Pr : Nat → List (Nat × Nat)) (sr : Nat → Nat × Nat → Nat) : Nat → (Nat → Nat → Nat) → Nat → Nat → PRow → PS → PS
  | 0 => fun N a b r s => if pPr s.2.2 a b = true then s else if en N = true then (s.1, s.2.1, some (a, b, r)) else s
  | k + 1 => fun N a b r s => if pPr s.2.2 a b = true then s else pL (fun e s' => pS F en Pr sr k (mv N (F - (k + 1)) e) (a + sr (F - (k + 1)) e) (b + 1) (rwU r (F - (k + 1)) (some e)) s') (Pr (F - (k + 1))) (pS F en Pr sr k N a b (rwU r (F - (k + 1)) none) s)
theorem pS_0 (F : Nat) (en : (Nat → Nat → Nat) → Bool) (Pr : Nat → List (Nat × Nat)) (sr : Nat → Nat × Nat → Nat) (N : Nat → Nat → Nat) (a b : Nat) (r : PRow) (s : PS) : pS F en Pr sr 0 N a b r s = if pPr s.2.2 a b = true then s else if en N = true then (s.1, s.2.1, some (a, b, r)) else s := rfl
theorem pS_s (F : Nat) (en : (Nat → Nat → Nat) → Bool) (Pr : Nat → List (Nat × Nat)) (sr : Nat → Nat × Nat → Nat) (k : Nat) (N : Nat → Nat → Nat) (a b : Nat) (r : PRow) (s : PS) : pS F en Pr sr (k + 1) N a b r s = if pPr s.2.2 a b = true then s else pL (fun e s' => pS F en Pr sr k (mv N (F - (k + 1)) e) (a + sr (F - (k + 1)) e) (b + 1) (rwU r (F - (k + 1)) (some e)) s') (Pr (F - (k + 1))) (pS F en Pr sr k N a b (rwU r (F - (k + 1)) none) s) := rfl
theorem pL_0 (step : Nat × Nat → PS → PS) (s : PS) : pL step [] s = s := rfl
theorem pL_s (step : Nat × Nat → PS → PS) (e : Nat × Nat) (l : List (Nat × Nat)) (s : PS) : pL step (e :: l) s = if s.2.1 = true then s else if s.1 = 0 then (0, true, s.2.2) else pL step l (step e (s.1 - 1, false, s.2.2)) := rfl
theorem pL_sp {step : Nat × Nat → PS → PS} {s : PS} (h : s.2.1 = true) : ∀ {l : List (Nat × Nat)}, pL step l s = s
  | [] => rfl
  | e :: l => by rw [pL_s, if_pos h]
theorem pL_app {step : Nat × Nat → PS → PS} : ∀ {l m : List (Nat × Nat)} {s : PS}, pL step (l ++ m) s = pL step m (pL step l s)
  | [], m, s => rfl
  | e :: l, m, s => by
    rw [List.cons_append, pL_s, pL_s]
    by_cases h : s.2.1 = true
    · rw [if_pos h, if_pos h, pL_sp h]
    · rw [if_neg h, if_neg h]
      by_cases h0 : s.1 = 0
      · rw [if_pos h0, if_pos h0, pL_sp rfl]
      · rw [if_neg h0, if_neg h0, pL_app]
theorem nsum_up {a : Nat → Nat} {p x : Nat} : ∀ {N : Nat}, p < N → nsum (fun q => if q = p then x else a q) N + a p = nsum a N + x
  | 0, h => absurd h (Nat.not_lt_zero _)
  | N + 1, h => by
    show nsum (fun q => if q = p then x else a q) N + (if N = p then x else a N) + a p = nsum a N + a N + x
    by_cases e : N = p
    · rw [if_pos e, nsum_cg (b := a) (fun q hq => if_neg (by omega)), e]
      omega
    · rw [if_neg e]
      have := nsum_up (a := a) (x := x) (p := p) (N := N) (by omega)
      omega
/-- what all families need of a part -/
def tn (F : Nat) (N : Nat → Nat → Nat) (p : Nat) : Nat := nsum (fun f => N f p) F
def tU (t : Nat → Nat) (g c m : Nat) : Nat → Nat := fun q => if q = c then t c + m else if q = g then t g - m else t q
theorem tn_mv {F f : Nat} {N : Nat → Nat → Nat} {e : Nat × Nat} (hf : f < F) (hc : N f e.2 = 0) (hne : e.1 ≠ e.2) : tn F (mv N f e) = tU (tn F N) e.1 e.2 (N f e.1) := by
  funext q
  have h1 : tn F (mv N f e) q = nsum (fun f' => if f' = f then (if q = e.2 then N f e.1 else if q = e.1 then 0 else N f q) else N f' q) F := rfl
  have h2 := nsum_up (a := fun f' => N f' q) (p := f) (x := if q = e.2 then N f e.1 else if q = e.1 then 0 else N f q) hf
  rw [← h1] at h2
  have h3 : nsum (fun f' => N f' q) F = tn F N q := rfl
  rw [h3] at h2
  unfold tU
  by_cases c1 : q = e.2
  · rw [if_pos c1] at h2 ⊢
    rw [← c1] at hc ⊢
    have h4 : (fun f' => N f' q) f = N f q := rfl
    omega
  · rw [if_neg c1] at h2 ⊢
    by_cases c2 : q = e.1
    · rw [if_pos c2] at h2 ⊢
      rw [← c2]
      have h4 : (fun f' => N f' q) f = N f q := rfl
      omega
    · rw [if_neg c2] at h2 ⊢
      have h4 : (fun f' => N f' q) f = N f q := rfl
      omega
theorem tU_back {t : Nat → Nat} {g c m : Nat} (hm : m ≤ t g) (hne : g ≠ c) : tU (tU t g c m) c g m = t := by
  funext q
  unfold tU
  by_cases c1 : q = g
  · subst c1
    rw [if_pos rfl, if_neg hne, if_pos rfl]
    omega
  · rw [if_neg c1]
    by_cases c2 : q = c
    · subst c2
      rw [if_pos rfl, if_pos rfl]
      omega
    · rw [if_neg c2, if_neg c2, if_neg c1]
theorem neg_iff {a b : Nat} (ha : a < 2 ^ 30) (hb : b < 2 ^ 30) : nI a - nI b < 0 ↔ a < b := by
  rw [Int32.lt_iff_toInt_lt, pk_sub_toInt ha hb, show (0 : Int32).toInt = 0 by decide]
  omega
/-- how many parts are short -/
def cnS (st t : Nat → Nat) (P : Nat) : Nat := nsum (fun q => if st q < t q then 1 else 0) P
def Sp (st : Nat → Nat) (P : Nat) (Z : LX) (t : Nat → Nat) : Prop := (∀ p, p < P → Z 101 p = nI (st p) - nI (t p)) ∧ Z 87 3 = nI (cnS st t P)
theorem cnS_le {st t : Nat → Nat} {P : Nat} : cnS st t P ≤ P := by
  have := nsum_le (a := fun q => if st q < t q then 1 else 0) (b := 1) (N := P) (fun f _ => by
    show (if st f < t f then 1 else 0) ≤ 1
    by_cases h : st f < t f
    · rw [if_pos h]; exact Nat.le_refl _
    · rw [if_neg h]; exact Nat.zero_le _)
  unfold cnS
  omega
theorem cnS_up {st t : Nat → Nat} {p w P : Nat} (hp : p < P) : cnS st (fun q => if q = p then w else t q) P + (if st p < t p then 1 else 0) = cnS st t P + (if st p < w then 1 else 0) := by
  have h := nsum_up (a := fun q => if st q < t q then 1 else 0) (p := p) (x := if st p < w then 1 else 0) hp
  have e : nsum (fun q => if q = p then (if st p < w then 1 else 0) else (if st q < t q then 1 else 0)) P = cnS st (fun q => if q = p then w else t q) P := by
    refine nsum_cg (fun q _ => ?_)
    show (if q = p then (if st p < w then 1 else 0) else (if st q < t q then 1 else 0)) = if st q < (if q = p then w else t q) then 1 else 0
    by_cases c : q = p
    · subst c; rw [if_pos rfl, if_pos rfl]
    · rw [if_neg c, if_neg c]
  rw [← e]
  exact h
section PLC
variable {g : GG} {n : Nat} {X : LX} {st : Nat → Nat} {P : Nat}
theorem c_change {d p w : Nat} {v : Int32} {Z : LX} {t : Nat → Nat} (hn : 146 ≤ n) (hZ : Sh n Z) (hP : P ≤ 14) (hp : p < P) (hs : st p < 2 ^ 30) (ht : t p < 2 ^ 30) (hw : w < 2 ^ 30) (hv : nI (st p) - nI (t p) + v = nI (st p) - nI w) (hQ : Sp st P Z t) : Ex g mX8_change d n n [.ref 87, .int (nI p), .int v] Z (fun u Z' => u = none ∧ Sh n Z' ∧ (∀ k, k ≠ 87 → k ≠ 101 → Z' k = Z k) ∧ (∀ j, j ≠ 3 → Z' 87 j = Z 87 j) ∧ Sp st P Z' (fun q => if q = p then w else t q)) := by
  obtain ⟨q1, q2⟩ := hQ
  have hcu := cnS_up (st := st) (t := t) (w := w) hp
  have hcl := cnS_le (st := st) (t := t) (P := P)
  have e1 := q1 p hp
  have hnew : Z 101 p + v = nI (st p) - nI w := by rw [e1, hv]
  have fin : ∀ (Y : LX) (s : Int32), Y = lx_up (lx_up Z 101 p (Z 101 p + v)) 87 3 s → s = nI (cnS st (fun q => if q = p then w else t q) P) → (none : Option Value) = none ∧ Sh n Y ∧ (∀ k, k ≠ 87 → k ≠ 101 → Y k = Z k) ∧ (∀ j, j ≠ 3 → Y 87 j = Z 87 j) ∧ Sp st P Y (fun q => if q = p then w else t q) := by
    intro Y s hY hs'
    refine ⟨rfl, ?_, ?_, ?_, ?_, ?_⟩
    · rw [hY]; exact (hZ.upA (by decide +kernel)).upF (by decide +kernel) (by decide +kernel)
    · intro k h1 h2; rw [hY, up_ne h1, up_ne h2]
    · intro j hj; rw [hY, up_at hj, up_ne (by omega)]
    · intro q hq
      rw [hY, up_ne (by omega)]
      show lx_up Z 101 p (Z 101 p + v) 101 q = nI (st q) - nI (if q = p then w else t q)
      by_cases c : q = p
      · subst c; rw [up_it, if_pos rfl, hnew]
      · rw [up_at c, if_neg c, q1 q hq]
    · rw [hY, up_it, hs']
  have hsw : ∀ s x : Int32, lx_up (lx_up Z 87 3 s) 101 p x = lx_up (lx_up Z 101 p x) 87 3 s := by
    intro s x
    funext k j
    by_cases c : k = 87
    · subst c
      rw [up_ne (by omega)]
      by_cases cj : j = 3
      · subst cj; rw [up_it, up_it]
      · rw [up_at cj, up_at cj, up_ne (by omega)]
    · rw [up_ne c]
      by_cases c2 : k = 101
      · subst c2
        by_cases cj : j = p
        · subst cj; rw [up_it, up_it]
        · rw [up_at cj, up_at cj, up_ne (by omega)]
      · rw [up_ne c2, up_ne c2, up_ne c]
  have hup2 : ∀ (Y : LX) (s s' : Int32), lx_up (lx_up Y 87 3 s) 87 3 s' = lx_up Y 87 3 s' := by
    intro Y s s'
    funext k j
    by_cases c : k = 87
    · subst c
      by_cases cj : j = 3
      · subst cj; rw [up_it, up_it]
      · rw [up_at cj, up_at cj, up_at cj]
    · rw [up_ne c, up_ne c, up_ne c]
  refine e_of vX8_change (Nat.le_of_ble_eq_true rfl) (cat_of rfl) ?_
  by_cases c0 : st p < t p
  · have k0 : ¬ 0 ≤ Z 101 p := by rw [e1]; exact Int32.not_le.mpr ((neg_iff hs ht).mpr c0)
    by_cases c1 : st p < w
    · rw [if_pos c0, if_pos c1] at hcu
      refine bX8_change_0_0 hn hZ (by omega) k0 (by rw [up_it, hnew]; exact Int32.not_le.mpr ((neg_iff hs hw).mpr c1)) ?_
      refine fin _ (Z 87 3 - 1 + 1) ?_ ?_
      · rw [hsw, hup2]
      · rw [Int32.sub_add_cancel, q2]; congr 1; omega
    · rw [if_pos c0, if_neg c1] at hcu
      refine bX8_change_0_1 hn hZ (by omega) k0 (by rw [up_it, hnew]; exact Int32.not_lt.mp (fun z => c1 ((neg_iff hs hw).mp z))) ?_
      refine fin _ (Z 87 3 - 1) (hsw _ _) ?_
      rw [q2]
      show nI (cnS st t P) - nI 1 = _
      rw [pk_sub (by omega)]
      congr 1
      omega
  · have k0 : 0 ≤ Z 101 p := by rw [e1]; exact Int32.not_lt.mp (fun z => c0 ((neg_iff hs ht).mp z))
    by_cases c1 : st p < w
    · rw [if_neg c0, if_pos c1] at hcu
      refine bX8_change_0_2 hn hZ (by omega) k0 (by rw [up_it, hnew]; exact Int32.not_le.mpr ((neg_iff hs hw).mpr c1)) ?_
      refine fin _ (Z 87 3 + 1) rfl ?_
      rw [q2, nI_1]
      congr 1
      omega
    · rw [if_neg c0, if_neg c1] at hcu
      refine bX8_change_0_3 hn hZ (by omega) k0 (by rw [up_it, hnew]; exact Int32.not_lt.mp (fun z => c1 ((neg_iff hs hw).mp z))) ?_
      refine ⟨rfl, hZ.upA (by decide +kernel), fun k _ h => up_ne h, fun j _ => by rw [up_ne (by omega)], ?_, ?_⟩
      · intro q hq
        show lx_up Z 101 p (Z 101 p + v) 101 q = nI (st q) - nI (if q = p then w else t q)
        by_cases c : q = p
        · subst c; rw [up_it, if_pos rfl, hnew]
        · rw [up_at c, if_neg c, q1 q hq]
      · rw [up_ne (by omega), q2]; congr 1; omega
theorem c_move {d a c m : Nat} {Z : LX} {t : Nat → Nat} (hd : 1 ≤ d) (hn : 146 ≤ n) (hZ : Sh n Z) (hP : P ≤ 14) (ha : a < P) (hc : c < P) (hne : a ≠ c) (hs : ∀ p, p < P → st p < 2 ^ 30) (ht : ∀ p, p < P → t p + m < 2 ^ 30) (hm : m ≤ t a) (hQ : Sp st P Z t) : Ex g mX8_move d n n [.ref 87, .int (nI a), .int (nI c), .int (nI m)] Z (fun u Z' => u = none ∧ Sh n Z' ∧ (∀ k, k ≠ 87 → k ≠ 101 → Z' k = Z k) ∧ (∀ j, j ≠ 3 → Z' 87 j = Z 87 j) ∧ Sp st P Z' (tU t a c m)) := by
  have ha' := ht a ha
  have hc' := ht c hc
  refine e_of vX8_move (Nat.le_of_ble_eq_true rfl) (cat_of rfl) (bX8_move_0_0 hn hZ (qX8_move_3 (d' := d - 1) (rest := []) hn (by omega) (by decide) (c_change (w := t a - m) hn hZ hP ha (hs a ha) (by omega) (by omega) ?_ hQ) (fun v W hv => ?_)))
  · rw [← pk_sub hm, Int32.sub_eq_add_neg (nI (t a)) (nI m), Int32.sub_eq_add_neg, Int32.sub_eq_add_neg, Int32.neg_add, Int32.sub_eq_add_neg, Int32.neg_neg, Int32.add_assoc]
  obtain ⟨rfl, w1, w2, w3, w4⟩ := hv
  refine bX8_move_6_0 hn w1 (qX8_move_10 (d' := d - 1) (rest := []) hn (by omega) (by decide) (c_change (w := t c + m) hn w1 hP hc (hs c hc) (show (if c = a then t a - m else t c) < 2 ^ 30 by rw [if_neg (Ne.symm hne)]; omega) (by omega) ?_ w4) (fun v V hv => ?_))
  · show nI (st c) - nI (if c = a then t a - m else t c) + -nI m = nI (st c) - nI (t c + m)
    rw [if_neg (Ne.symm hne), ← nI_add, Int32.sub_eq_add_neg, Int32.sub_eq_add_neg, Int32.neg_add, Int32.add_assoc]
    try rw [Int32.sub_eq_add_neg]
  obtain ⟨rfl, v1, v2, v3, v4⟩ := hv
  refine bX8_move_13_0 hn v1 ⟨rfl, v1, fun k h1 h2 => by rw [v2 k h1 h2, w2 k h1 h2], fun j hj => by rw [v3 j hj, w3 j hj], ?_⟩
  have e : (fun q => if q = c then t c + m else if q = a then t a - m else t q) = tU t a c m := rfl
  rw [← e]
  exact v4
end PLC
