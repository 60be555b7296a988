/-! A MEAL'S ALLERGENS, both sides. -/
theorem or_0 {F : Nat → Int32} : ∀ {N : Nat}, (∀ p, p < N → F p = 0) → orTo F N = 0
  | 0, _ => rfl
  | N + 1, h => by
    show orTo F N ||| F N = 0
    rw [or_0 (fun p hp => h p (Nat.lt_succ_of_lt hp)), h N (Nat.lt_succ_self N)]
    rfl
theorem or_cg {F G : Nat → Int32} : ∀ {N : Nat}, (∀ p, p < N → F p = G p) → orTo F N = orTo G N
  | 0, _ => rfl
  | N + 1, h => by
    show orTo F N ||| F N = orTo G N ||| G N
    rw [or_cg (fun p hp => h p (Nat.lt_succ_of_lt hp)), h N (Nat.lt_succ_self N)]
theorem or_out {F : Nat → Int32} {q : Nat} : ∀ {N : Nat}, q < N → orTo F N = orTo (fun p => if p = q then 0 else F p) N ||| F q
  | 0, h => absurd h (Nat.not_lt_zero _)
  | N + 1, h => by
    show orTo F N ||| F N = orTo (fun p => if p = q then 0 else F p) N ||| (if N = q then 0 else F N) ||| F q
    by_cases e : N = q
    · subst e
      rw [if_pos rfl, Int32.or_zero]
      rw [or_cg (F := fun p => if p = N then 0 else F p) (G := F) (fun p hp => if_neg (Nat.ne_of_lt hp))]
    · rw [if_neg e, or_out (q := q) (N := N) (show q < N by omega), Int32.or_assoc, Int32.or_assoc, Int32.or_comm (F q) (F N)]
theorem or_list {N : Nat} {G : Nat → Int32} {q : Nat → Nat} : ∀ {k : Nat} {F : Nat → Int32}, (∀ t, t < k → q t < N) → (∀ s t, s < k → t < k → q s = q t → s = t) → (∀ t, t < k → F (q t) = G t) → (∀ p, p < N → (∀ t, t < k → q t ≠ p) → F p = 0) → orTo F N = orTo G k
  | 0, F, _, _, _, h0 => or_0 (fun p hp => h0 p hp (fun t ht => absurd ht (Nat.not_lt_zero _)))
  | k + 1, F, hq, hi, h1, h0 => by
    rw [or_out (q := q k) (hq k (Nat.lt_succ_self k)), h1 k (Nat.lt_succ_self k)]
    show _ = orTo G k ||| G k
    rw [or_list (k := k) (F := fun p => if p = q k then 0 else F p) (fun t ht => hq t (Nat.lt_succ_of_lt ht)) (fun s t hs ht => hi s t (Nat.lt_succ_of_lt hs) (Nat.lt_succ_of_lt ht)) (fun t ht => ?_) (fun p hp hn => ?_)]
    · have hne : q t ≠ q k := fun e => absurd (hi t k (Nat.lt_succ_of_lt ht) (Nat.lt_succ_self k) e) (Nat.ne_of_lt ht)
      show (if q t = q k then 0 else F (q t)) = G t
      rw [if_neg hne]
      exact h1 t (Nat.lt_succ_of_lt ht)
    · show (if p = q k then 0 else F p) = 0
      by_cases e : p = q k
      · rw [if_pos e]
      · rw [if_neg e]
        refine h0 p hp (fun t ht w => ?_)
        rcases Nat.lt_or_ge t k with z | z
        · exact hn t z w
        · have : t = k := by omega
          subst this
          exact e w.symm
theorem all_eq {X : LX} {m : Nat} (h : mealR X (X 134) m) (h2 : R2 X (X 134)) (hP : num X 2 0 14) (e4 : X 2 0 = X 134 4) : cAll X m = mAll X m := by
  obtain ⟨k, q, hk, e, h1, hi, h3⟩ := h
  obtain ⟨P, hP, eP⟩ := hP
  have hlt : ∀ t, t < k → q t < P := fun t ht => by
    have w := (h1 t ht).2.2.1
    rw [← e4, eP] at w
    exact (nI_lt_iff (by have := (h1 t ht).2.1; omega) (by omega)).mp w
  unfold cAll mAll mMany
  rw [e, ix_nI (by omega), eP, ix_nI (by omega)]
  refine or_list (q := q) hlt hi (fun t ht => ?_) (fun p hp hn => ?_)
  · obtain ⟨a1, a2, -, a4, -, a6⟩ := h1 t ht
    have eq : mQ X m t = q t := by unfold mQ; rw [a1, ix_nI (by omega)]
    rw [eq, a6, if_neg (fun w => by rw [Int32.le_iff_toInt_le] at a4 w; rw [show (1 : Int32).toInt = 1 by decide] at a4; rw [show (0 : Int32).toInt = 0 by decide] at w; omega), (h2 (q t) a2).1]
  · rw [h3 p (by omega) hn, if_pos (by decide)]
