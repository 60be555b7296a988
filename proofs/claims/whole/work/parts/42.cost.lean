/-! A MEAL'S COST, both sides. -/
theorem cost_eq {X : LX} {m : Nat} (h : mealR X (X 134) m) (h2 : R2 X (X 134)) (hP : num X 2 0 14) (e4 : X 2 0 = X 134 4) : cCost X m = mCost X m := by
  obtain ⟨k, q, hk, e, h1, hi, h3⟩ := h
  obtain ⟨P, hP, eP⟩ := hP
  have hlt : ∀ t, t < k → q t < P := fun t ht => by
    have w := (h1 t ht).2.2.1
    rw [← e4, eP] at w
    exact (nI_lt_iff (by have := (h1 t ht).2.1; omega) (by omega)).mp w
  unfold cCost mCost mMany
  rw [e, ix_nI (by omega), eP, ix_nI (by omega)]
  refine sum_list (q := q) hlt hi (fun t ht => ?_) (fun p hp hn => ?_)
  · obtain ⟨a1, a2, -, -, -, a6⟩ := h1 t ht
    have eq : mQ X m t = q t := by unfold mQ; rw [a1, ix_nI (by omega)]
    rw [eq, a6, (h2 (q t) a2).2.1]
  · rw [h3 p (by omega) hn]
    simp
