/-! CONTRACTS: allergens, cost, grams, stock, on both sides. -/
section H3
variable {g : GG} {d n : Nat} {X : LX}
theorem c_X1_allergensOf {m P : Nat} (hd : 0 ≤ d) (hn : 146 ≤ n) (hX : Sh n X) (hm : m < 10) (hP : X 2 0 = nI P) (hP2 : P ≤ 14) : Ex g mX1_allergensOf d n n [.ref 1, .int (nI m)] X (rt (orTo (fun p => if X (26 + 1 + m) p ≤ 0 then 0 else X 3 p) P) X) := by
  refine e_of vX1_allergensOf (Nat.le_of_ble_eq_true rfl) (cat_of rfl) (bX1_allergensOf_0_0 hn hX ?_)
  have loop : ∀ i, i ≤ P → Ev g mX1_allergensOf d n n (rt (orTo (fun p => if X (26 + 1 + m) p ≤ 0 then 0 else X 3 p) P) X) n 4 [some (.ref 1), some (.int (nI m)), some (.int (orTo (fun p => if X (26 + 1 + m) p ≤ 0 then 0 else X 3 p) i)), some (.int (nI i))] [] X := by
    refine down ?_ ?_
    · exact bX1_allergensOf_4_2 hn hX (by rw [hP]; exact nI_le (Nat.le_refl _) (by omega)) ⟨rfl, rfl⟩
    · intro i hi k
      rw [show nI (i + 1) = nI i + 1 from (nI_1 i).symm] at k
      by_cases c : X (26 + 1 + m) i ≤ 0
      · rw [show orTo (fun p => if X (26 + 1 + m) p ≤ 0 then 0 else X 3 p) (i + 1) = orTo (fun p => if X (26 + 1 + m) p ≤ 0 then 0 else X 3 p) i by first | (simp only [orTo, if_pos c]; done) | simp [orTo, c]] at k
        exact bX1_allergensOf_4_1 hn hX (by rw [hP]; exact nI_ge hi (by omega)) hm (by omega) c k
      · rw [show orTo (fun p => if X (26 + 1 + m) p ≤ 0 then 0 else X 3 p) (i + 1) = orTo (fun p => if X (26 + 1 + m) p ≤ 0 then 0 else X 3 p) i ||| X 3 i by first | (simp only [orTo, if_neg c]; done) | simp [orTo, c]] at k
        exact bX1_allergensOf_4_0 hn hX (by rw [hP]; exact nI_ge hi (by omega)) hm (by omega) c k
  exact loop 0 (Nat.zero_le _)
theorem c_X1_costOf {m P : Nat} (hd : 0 ≤ d) (hn : 146 ≤ n) (hX : Sh n X) (hm : m < 10) (hP : X 2 0 = nI P) (hP2 : P ≤ 14) : Ex g mX1_costOf d n n [.ref 1, .int (nI m)] X (rt (sumTo (fun p => X (26 + 1 + m) p * X 5 p / 100) P) X) := by
  refine e_of vX1_costOf (Nat.le_of_ble_eq_true rfl) (cat_of rfl) (bX1_costOf_0_0 hn hX ?_)
  have loop : ∀ i, i ≤ P → Ev g mX1_costOf d n n (rt (sumTo (fun p => X (26 + 1 + m) p * X 5 p / 100) P) X) n 4 [some (.ref 1), some (.int (nI m)), some (.int (sumTo (fun p => X (26 + 1 + m) p * X 5 p / 100) i)), some (.int (nI i))] [] X := by
    refine down ?_ ?_
    · exact bX1_costOf_4_1 hn hX (by rw [hP]; exact nI_le (Nat.le_refl _) (by omega)) ⟨rfl, rfl⟩
    · intro i hi k
      rw [show nI (i + 1) = nI i + 1 from (nI_1 i).symm] at k
      exact bX1_costOf_4_0 hn hX (by rw [hP]; exact nI_ge hi (by omega)) hm (by omega) k
  exact loop 0 (Nat.zero_le _)
theorem c_X12_allergens {m c : Nat} {q : Nat → Nat} (hd : 1 ≤ d) (hn : 146 ≤ n) (hX : Sh n X) (hm : m < 10) (hc : X 134 (318 + 13 * m + 2) = nI c) (hc2 : c ≤ 5) (hq : ∀ k, k < c → X 134 (318 + 13 * m + (3 + k)) = nI (q k) ∧ q k < 14) : Ex g mX12_allergens d n n [.ref 133, .int (nI m)] X (rt (orTo (fun k => X 134 (10 + 8 * q k + 0)) c) X) := by
  refine e_of vX12_allergens (Nat.le_of_ble_eq_true rfl) (cat_of rfl) (bX12_allergens_0_0 hn hX ?_)
  have loop : ∀ i, i ≤ c → Ev g mX12_allergens d n n (rt (orTo (fun k => X 134 (10 + 8 * q k + 0)) c) X) n 4 [some (.ref 133), some (.int (nI m)), some (.int (orTo (fun k => X 134 (10 + 8 * q k + 0)) i)), some (.int (nI i))] [] X := by
    refine down ?_ ?_
    · exact bX12_allergens_4_1 hd hn hX (by omega) (by rw [hc]; exact nI_le (Nat.le_refl _) (by omega)) ⟨rfl, rfl⟩
    · intro i hi k
      rw [show nI (i + 1) = nI i + 1 from (nI_1 i).symm] at k
      exact bX12_allergens_4_0 hd hn hX (by omega) (by rw [hc]; exact nI_ge hi (by omega)) (by omega) (hq i hi).1 (by have := (hq i hi).2; omega) k
  exact loop 0 (Nat.zero_le _)
theorem c_X12_cost {m c : Nat} {q : Nat → Nat} (hd : 1 ≤ d) (hn : 146 ≤ n) (hX : Sh n X) (hm : m < 10) (hc : X 134 (318 + 13 * m + 2) = nI c) (hc2 : c ≤ 5) (hq : ∀ k, k < c → X 134 (318 + 13 * m + (3 + k)) = nI (q k) ∧ q k < 14) : Ex g mX12_cost d n n [.ref 133, .int (nI m)] X (rt (sumTo (fun k => X 134 (318 + 13 * m + (8 + k)) * X 134 (10 + 8 * q k + 1) / 100) c) X) := by
  refine e_of vX12_cost (Nat.le_of_ble_eq_true rfl) (cat_of rfl) (bX12_cost_0_0 hn hX ?_)
  have loop : ∀ i, i ≤ c → Ev g mX12_cost d n n (rt (sumTo (fun k => X 134 (318 + 13 * m + (8 + k)) * X 134 (10 + 8 * q k + 1) / 100) c) X) n 4 [some (.ref 133), some (.int (nI m)), some (.int (sumTo (fun k => X 134 (318 + 13 * m + (8 + k)) * X 134 (10 + 8 * q k + 1) / 100) i)), some (.int (nI i))] [] X := by
    refine down ?_ ?_
    · exact bX12_cost_4_1 hd hn hX (by omega) (by rw [hc]; exact nI_le (Nat.le_refl _) (by omega)) ⟨rfl, rfl⟩
    · intro i hi k
      rw [show nI (i + 1) = nI i + 1 from (nI_1 i).symm] at k
      exact bX12_cost_4_0 hd hn hX (by omega) (by rw [hc]; exact nI_ge hi (by omega)) (by omega) (by omega) (hq i hi).1 (by have := (hq i hi).2; omega) k
  exact loop 0 (Nat.zero_le _)
theorem c_X12_grams {m c : Nat} (hd : 1 ≤ d) (hn : 146 ≤ n) (hX : Sh n X) (hm : m < 10) (hc : X 134 (318 + 13 * m + 2) = nI c) (hc2 : c ≤ 5) : Ex g mX12_grams d n n [.ref 133, .int (nI m)] X (rt (sumTo (fun k => X 134 (318 + 13 * m + (8 + k))) c) X) := by
  refine e_of vX12_grams (Nat.le_of_ble_eq_true rfl) (cat_of rfl) (bX12_grams_0_0 hn hX ?_)
  have loop : ∀ i, i ≤ c → Ev g mX12_grams d n n (rt (sumTo (fun k => X 134 (318 + 13 * m + (8 + k))) c) X) n 4 [some (.ref 133), some (.int (nI m)), some (.int (sumTo (fun k => X 134 (318 + 13 * m + (8 + k))) i)), some (.int (nI i))] [] X := by
    refine down ?_ ?_
    · exact bX12_grams_4_1 hd hn hX (by omega) (by rw [hc]; exact nI_le (Nat.le_refl _) (by omega)) ⟨rfl, rfl⟩
    · intro i hi k
      rw [show nI (i + 1) = nI i + 1 from (nI_1 i).symm] at k
      exact bX12_grams_4_0 hd hn hX (by omega) (by rw [hc]; exact nI_ge hi (by omega)) (by omega) k
  exact loop 0 (Nat.zero_le _)
theorem c_X12_stockOf {N : Nat} {p : Int32} (hd : 1 ≤ d) (hn : 146 ≤ n) (hX : Sh n X) (hN : X 134 7 = nI N) (hN2 : N ≤ 40) : Ex g mX12_stockOf d n n [.ref 133, .int p] X (rt (sumTo (fun l => if X 134 (628 + 5 * l + 0) = p then X 134 (628 + 5 * l + 3) else 0) N) X) := by
  refine e_of vX12_stockOf (Nat.le_of_ble_eq_true rfl) (cat_of rfl) (bX12_stockOf_0_0 hn hX ?_)
  have loop : ∀ i, i ≤ N → Ev g mX12_stockOf d n n (rt (sumTo (fun l => if X 134 (628 + 5 * l + 0) = p then X 134 (628 + 5 * l + 3) else 0) N) X) n 4 [some (.ref 133), some (.int p), some (.int (sumTo (fun l => if X 134 (628 + 5 * l + 0) = p then X 134 (628 + 5 * l + 3) else 0) i)), some (.int (nI i))] [] X := by
    refine down ?_ ?_
    · exact bX12_stockOf_4_2 hn hX (by rw [hN]; exact nI_le (Nat.le_refl _) (by omega)) ⟨rfl, rfl⟩
    · intro i hi k
      rw [show nI (i + 1) = nI i + 1 from (nI_1 i).symm] at k
      by_cases c : X 134 (628 + 5 * i + 0) = p
      · rw [show sumTo (fun l => if X 134 (628 + 5 * l + 0) = p then X 134 (628 + 5 * l + 3) else 0) (i + 1) = sumTo (fun l => if X 134 (628 + 5 * l + 0) = p then X 134 (628 + 5 * l + 3) else 0) i + X 134 (628 + 5 * i + 3) by first | (simp only [sumTo, if_pos c]; done) | simp [sumTo, c]] at k
        exact bX12_stockOf_4_0 hd hn hX (by rw [hN]; exact nI_ge hi (by omega)) (by omega) c (by omega) k
      · rw [show sumTo (fun l => if X 134 (628 + 5 * l + 0) = p then X 134 (628 + 5 * l + 3) else 0) (i + 1) = sumTo (fun l => if X 134 (628 + 5 * l + 0) = p then X 134 (628 + 5 * l + 3) else 0) i + 0 by first | (simp only [sumTo, if_neg c]; done) | simp [sumTo, c]] at k
        exact bX12_stockOf_4_1 hd hn hX (by rw [hN]; exact nI_ge hi (by omega)) (by omega) c k
  exact loop 0 (Nat.zero_le _)
end H3
