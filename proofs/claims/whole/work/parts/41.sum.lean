/-! SUMS over a row of parts against sums over a list of parts. -/
theorem sum_0 {F : Nat → Int32} : ∀ {N : Nat}, (∀ p, p < N → F p = 0) → sumTo F N = 0
  | 0, _ => rfl
  | N + 1, h => by
    show sumTo F N + F N = 0
    rw [sum_0 (fun p hp => h p (Nat.lt_succ_of_lt hp)), h N (Nat.lt_succ_self N)]
    rfl
theorem sum_cg {F G : Nat → Int32} : ∀ {N : Nat}, (∀ p, p < N → F p = G p) → sumTo F N = sumTo G N
  | 0, _ => rfl
  | N + 1, h => by
    show sumTo F N + F N = sumTo G N + G N
    rw [sum_cg (fun p hp => h p (Nat.lt_succ_of_lt hp)), h N (Nat.lt_succ_self N)]
theorem sum_out {F : Nat → Int32} {q : Nat} : ∀ {N : Nat}, q < N → sumTo F N = sumTo (fun p => if p = q then 0 else F p) N + F q
  | 0, h => absurd h (Nat.not_lt_zero _)
  | N + 1, h => by
    show sumTo F N + F N = sumTo (fun p => if p = q then 0 else F p) N + (if N = q then 0 else F N) + F q
    by_cases e : N = q
    · subst e
      rw [if_pos rfl, Int32.add_zero]
      rw [sum_cg (F := fun p => if p = N then 0 else F p) (G := F) (fun p hp => if_neg (Nat.ne_of_lt hp))]
    · rw [if_neg e, sum_out (q := q) (N := N) (show q < N by omega), Int32.add_assoc, Int32.add_assoc, Int32.add_comm (F q) (F N)]
theorem sum_list {N : Nat} {G : Nat → Int32} {q : Nat → Nat} : ∀ {k : Nat} {F : Nat → Int32}, (∀ t, t < k → q t < N) → (∀ s t, s < k → t < k → q s = q t → s = t) → (∀ t, t < k → F (q t) = G t) → (∀ p, p < N → (∀ t, t < k → q t ≠ p) → F p = 0) → sumTo F N = sumTo G k
  | 0, F, _, _, _, h0 => sum_0 (fun p hp => h0 p hp (fun t ht => absurd ht (Nat.not_lt_zero _)))
  | k + 1, F, hq, hi, h1, h0 => by
    rw [sum_out (q := q k) (hq k (Nat.lt_succ_self k)), h1 k (Nat.lt_succ_self k)]
    show _ = sumTo G k + G k
    rw [sum_list (k := k) (F := fun p => if p = q k then 0 else F p) (fun t ht => hq t (Nat.lt_succ_of_lt ht)) (fun s t hs ht => hi s t (Nat.lt_succ_of_lt hs) (Nat.lt_succ_of_lt ht)) (fun t ht => ?_) (fun p hp hn => ?_)]
    · have hne : q t ≠ q k := fun e => absurd (hi t k (Nat.lt_succ_of_lt ht) (Nat.lt_succ_self k) e) (Nat.ne_of_lt ht)
      show (if q t = q k then 0 else F (q t)) = G t
      rw [if_neg hne]
      exact h1 t (Nat.lt_succ_of_lt ht)
    · show (if p = q k then 0 else F p) = 0
      by_cases e : p = q k
      · rw [if_pos e]
      · rw [if_neg e]
        refine h0 p hp (fun t ht w => ?_)
        rcases Nat.lt_or_ge t k with z | z
        · exact hn t z w
        · have : t = k := by omega
          subst this
          exact e w.symm
/-- a meal's grams, both sides -/
theorem gr_eq {X : LX} {m : Nat} (h : mealR X (X 134) m) : cGr X m = mGr X m := by
  obtain ⟨k, q, hk, e, h1, h2, h3⟩ := h
  unfold cGr mGr mMany
  rw [e, ix_nI (by omega)]
  exact sum_list (fun t ht => (h1 t ht).2.1) h2 (fun t ht => (h1 t ht).2.2.2.2.2) h3
