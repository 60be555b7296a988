/-! CONTRACTS: counts and sums, sheets, letters. -/
section H1
variable {g : GG} {d n : Nat} {X : LX}
theorem c_X5_partsIn {m : Nat} (hd : 0 ≤ d) (hn : 146 ≤ n) (hX : Sh n X) (hm : m < 10) : Ex g mX5_partsIn d n n [.ref 23, .int (nI m)] X (rt (sumTo (fun p => if X (26 + 1 + m) p ≤ 0 then 0 else 1) 14) X) := by
  refine e_of vX5_partsIn (Nat.le_of_ble_eq_true rfl) (cat_of rfl) (bX5_partsIn_0_0 hn hX ?_)
  have loop : ∀ i, i ≤ 14 → Ev g mX5_partsIn d n n (rt (sumTo (fun p => if X (26 + 1 + m) p ≤ 0 then 0 else 1) 14) X) n 4 [some (.ref 23), some (.int (nI m)), some (.int (sumTo (fun p => if X (26 + 1 + m) p ≤ 0 then 0 else 1) i)), some (.int (nI i))] [] X := by
    refine down ?_ ?_
    · exact bX5_partsIn_4_2 hn hX (show nI 14 ≤ nI 14 from nI_le (by omega) (by omega)) ⟨rfl, rfl⟩
    · intro i hi k
      have c0 : ¬ (14 : Int32) ≤ nI i := show ¬ nI 14 ≤ nI i from nI_ge hi (by omega)
      rw [show nI (i + 1) = nI i + 1 from (nI_1 i).symm] at k
      by_cases c : X (26 + 1 + m) i ≤ 0
      · refine bX5_partsIn_4_1 hn hX c0 hm hi c ?_
        rw [show sumTo (fun p => if X (26 + 1 + m) p ≤ 0 then 0 else 1) (i + 1) = sumTo (fun p => if X (26 + 1 + m) p ≤ 0 then 0 else 1) i by simp [sumTo, c]] at k
        exact k
      · refine bX5_partsIn_4_0 hn hX c0 hm hi c ?_
        rw [show sumTo (fun p => if X (26 + 1 + m) p ≤ 0 then 0 else 1) (i + 1) = sumTo (fun p => if X (26 + 1 + m) p ≤ 0 then 0 else 1) i + 1 by simp [sumTo, c]] at k
        exact k
  exact loop 0 (by omega)
theorem c_X5_gramsOf {m : Nat} (hd : 0 ≤ d) (hn : 146 ≤ n) (hX : Sh n X) (hm : m < 10) : Ex g mX5_gramsOf d n n [.ref 23, .int (nI m)] X (rt (sumTo (X (26 + 1 + m)) 14) X) := by
  refine e_of vX5_gramsOf (Nat.le_of_ble_eq_true rfl) (cat_of rfl) (bX5_gramsOf_0_0 hn hX ?_)
  have loop : ∀ i, i ≤ 14 → Ev g mX5_gramsOf d n n (rt (sumTo (X (26 + 1 + m)) 14) X) n 4 [some (.ref 23), some (.int (nI m)), some (.int (sumTo (X (26 + 1 + m)) i)), some (.int (nI i))] [] X := by
    refine down ?_ ?_
    · exact bX5_gramsOf_4_1 hn hX (show nI 14 ≤ nI 14 from nI_le (by omega) (by omega)) ⟨rfl, rfl⟩
    · intro i hi k
      rw [show nI (i + 1) = nI i + 1 from (nI_1 i).symm] at k
      exact bX5_gramsOf_4_0 hn hX (show ¬ nI 14 ≤ nI i from nI_ge hi (by omega)) hm hi k
  exact loop 0 (by omega)
theorem c_X4_leftOf {N : Nat} {p : Int32} (hd : 0 ≤ d) (hn : 146 ≤ n) (hX : Sh n X) (hN : X 69 0 = nI N) (hN2 : N ≤ 40) : Ex g mX4_leftOf d n n [.ref 69, .int p] X (rt (sumTo (fun l => if X 70 l = p then X 73 l else 0) N) X) := by
  refine e_of vX4_leftOf (Nat.le_of_ble_eq_true rfl) (cat_of rfl) (bX4_leftOf_0_0 hn hX ?_)
  have loop : ∀ i, i ≤ N → Ev g mX4_leftOf d n n (rt (sumTo (fun l => if X 70 l = p then X 73 l else 0) N) X) n 4 [some (.ref 69), some (.int p), some (.int (sumTo (fun l => if X 70 l = p then X 73 l else 0) i)), some (.int (nI i))] [] X := by
    refine down ?_ ?_
    · exact bX4_leftOf_4_2 hn hX (by rw [hN]; exact nI_le (by omega) (by omega)) ⟨rfl, rfl⟩
    · intro i hi k
      have c0 : ¬ X 69 0 ≤ nI i := by rw [hN]; exact nI_ge hi (by omega)
      rw [show nI (i + 1) = nI i + 1 from (nI_1 i).symm] at k
      by_cases c : X 70 i = p
      · refine bX4_leftOf_4_0 hn hX c0 (by omega) c ?_
        rw [show sumTo (fun l => if X 70 l = p then X 73 l else 0) (i + 1) = sumTo (fun l => if X 70 l = p then X 73 l else 0) i + X 73 i by simp [sumTo, c]] at k
        exact k
      · refine bX4_leftOf_4_1 hn hX c0 (by omega) c ?_
        rw [show sumTo (fun l => if X 70 l = p then X 73 l else 0) (i + 1) = sumTo (fun l => if X 70 l = p then X 73 l else 0) i by simp [sumTo, c]] at k
        exact k
  exact loop 0 (by omega)
theorem c_X4_cameOf {N : Nat} {p : Int32} (hd : 0 ≤ d) (hn : 146 ≤ n) (hX : Sh n X) (hN : X 69 0 = nI N) (hN2 : N ≤ 40) : Ex g mX4_cameOf d n n [.ref 69, .int p] X (rt (sumTo (fun l => if X 70 l = p then X 71 l else 0) N) X) := by
  refine e_of vX4_cameOf (Nat.le_of_ble_eq_true rfl) (cat_of rfl) (bX4_cameOf_0_0 hn hX ?_)
  have loop : ∀ i, i ≤ N → Ev g mX4_cameOf d n n (rt (sumTo (fun l => if X 70 l = p then X 71 l else 0) N) X) n 4 [some (.ref 69), some (.int p), some (.int (sumTo (fun l => if X 70 l = p then X 71 l else 0) i)), some (.int (nI i))] [] X := by
    refine down ?_ ?_
    · exact bX4_cameOf_4_2 hn hX (by rw [hN]; exact nI_le (by omega) (by omega)) ⟨rfl, rfl⟩
    · intro i hi k
      have c0 : ¬ X 69 0 ≤ nI i := by rw [hN]; exact nI_ge hi (by omega)
      rw [show nI (i + 1) = nI i + 1 from (nI_1 i).symm] at k
      by_cases c : X 70 i = p
      · refine bX4_cameOf_4_0 hn hX c0 (by omega) c ?_
        rw [show sumTo (fun l => if X 70 l = p then X 71 l else 0) (i + 1) = sumTo (fun l => if X 70 l = p then X 71 l else 0) i + X 71 i by simp [sumTo, c]] at k
        exact k
      · refine bX4_cameOf_4_1 hn hX c0 (by omega) c ?_
        rw [show sumTo (fun l => if X 70 l = p then X 71 l else 0) (i + 1) = sumTo (fun l => if X 70 l = p then X 71 l else 0) i by simp [sumTo, c]] at k
        exact k
  exact loop 0 (by omega)
/-- isKind: whether meal m is of kind k -/
abbrev isKd (X : LX) (m : Nat) (k : Int32) : Prop := k = 0 ∨ X 24 m = k ∨ (k = 2 ∧ X 24 m = 3)
theorem t_X5_isKind {m : Nat} {k : Int32} (hd : 0 ≤ d) (hn : 146 ≤ n) (hX : Sh n X) (hm : m < 10) (h : isKd X m k) : Ex g mX5_isKind d n n [.ref 23, .int (nI m), .int k] X (rt 1 X) :=
  e_of vX5_isKind (Nat.le_of_ble_eq_true rfl) (cat_of rfl) (by
    by_cases h0 : k = 0
    · exact bX5_isKind_0_4 hn hX h0 ⟨rfl, rfl⟩
    · by_cases h1 : X 24 m = k
      · exact bX5_isKind_0_3 hn hX h0 hm h1 ⟨rfl, rfl⟩
      · rcases h with h | h | ⟨h2, h3⟩
        · exact absurd h h0
        · exact absurd h h1
        · exact bX5_isKind_0_0 hn hX h0 hm h1 h2 h3 ⟨rfl, rfl⟩)
theorem f_X5_isKind {m : Nat} {k : Int32} (hd : 0 ≤ d) (hn : 146 ≤ n) (hX : Sh n X) (hm : m < 10) (h : ¬ isKd X m k) : Ex g mX5_isKind d n n [.ref 23, .int (nI m), .int k] X (rt 0 X) :=
  e_of vX5_isKind (Nat.le_of_ble_eq_true rfl) (cat_of rfl) (by
    have h0 : ¬ k = 0 := fun q => h (Or.inl q)
    have h1 : ¬ X 24 m = k := fun q => h (Or.inr (Or.inl q))
    by_cases h2 : k = 2
    · exact bX5_isKind_0_1 hn hX h0 hm h1 h2 (fun q => h (Or.inr (Or.inr ⟨h2, q⟩))) ⟨rfl, rfl⟩
    · exact bX5_isKind_0_2 hn hX h0 hm h1 h2 ⟨rfl, rfl⟩)
theorem t_X9_isNumber {a : Int32} (hd : 0 ≤ d) (hn : 146 ≤ n) (hX : Sh n X) (h : 0 ≤ a ∧ a < 2) : Ex g mX9_isNumber d n n [.ref 127, .int a] X (rt 1 X) :=
  e_of vX9_isNumber (Nat.le_of_ble_eq_true rfl) (cat_of rfl) (bX9_isNumber_0_0 hn hX (i_nlt h.1) (i_nle h.2) ⟨rfl, rfl⟩)
theorem f_X9_isNumber {a : Int32} (hd : 0 ≤ d) (hn : 146 ≤ n) (hX : Sh n X) (h : ¬ (0 ≤ a ∧ a < 2)) : Ex g mX9_isNumber d n n [.ref 127, .int a] X (rt 0 X) :=
  e_of vX9_isNumber (Nat.le_of_ble_eq_true rfl) (cat_of rfl) (by
    by_cases h1 : a < 0
    · exact bX9_isNumber_0_2 hn hX h1 ⟨rfl, rfl⟩
    · exact bX9_isNumber_0_1 hn hX h1 (i_le (fun q => h ⟨i_le h1, q⟩)) ⟨rfl, rfl⟩)
theorem t_X9_isMissing {a : Nat} (hd : 0 ≤ d) (hn : 146 ≤ n) (hX : Sh n X) (ha : a < 2) (h : X 131 a < 0) : Ex g mX9_isMissing d n n [.ref 127, .int (nI a)] X (rt 1 X) :=
  e_of vX9_isMissing (Nat.le_of_ble_eq_true rfl) (cat_of rfl) (bX9_isMissing_0_0 hn hX ha (i_nle h) ⟨rfl, rfl⟩)
theorem f_X9_isMissing {a : Nat} (hd : 0 ≤ d) (hn : 146 ≤ n) (hX : Sh n X) (ha : a < 2) (h : ¬ X 131 a < 0) : Ex g mX9_isMissing d n n [.ref 127, .int (nI a)] X (rt 0 X) :=
  e_of vX9_isMissing (Nat.le_of_ble_eq_true rfl) (cat_of rfl) (bX9_isMissing_0_1 hn hX ha (i_le h) ⟨rfl, rfl⟩)
theorem t_X9_hasPlaces {a : Nat} {f m : Int32} (hd : 0 ≤ d) (hn : 146 ≤ n) (hX : Sh n X) (ha : a < 2) (h : 0 ≤ f ∧ 0 ≤ m ∧ f ≤ X 131 a ∧ m ≤ X 131 a - f) : Ex g mX9_hasPlaces d n n [.ref 127, .int (nI a), .int f, .int m] X (rt 1 X) :=
  e_of vX9_hasPlaces (Nat.le_of_ble_eq_true rfl) (cat_of rfl) (bX9_hasPlaces_0_0 hn hX (i_nlt h.1) (i_nlt h.2.1) ha (i_nlt h.2.2.1) (i_nlt h.2.2.2) ⟨rfl, rfl⟩)
theorem f_X9_hasPlaces {a : Nat} {f m : Int32} (hd : 0 ≤ d) (hn : 146 ≤ n) (hX : Sh n X) (ha : a < 2) (h : ¬ (0 ≤ f ∧ 0 ≤ m ∧ f ≤ X 131 a ∧ m ≤ X 131 a - f)) : Ex g mX9_hasPlaces d n n [.ref 127, .int (nI a), .int f, .int m] X (rt 0 X) :=
  e_of vX9_hasPlaces (Nat.le_of_ble_eq_true rfl) (cat_of rfl) (by
    by_cases h1 : f < 0
    · exact bX9_hasPlaces_0_4 hn hX h1 ⟨rfl, rfl⟩
    · by_cases h2 : m < 0
      · exact bX9_hasPlaces_0_3 hn hX h1 h2 ⟨rfl, rfl⟩
      · by_cases h3 : X 131 a < f
        · exact bX9_hasPlaces_0_2 hn hX h1 h2 ha h3 ⟨rfl, rfl⟩
        · exact bX9_hasPlaces_0_1 hn hX h1 h2 ha h3 (Decidable.byContradiction fun q => h ⟨i_le h1, i_le h2, i_le h3, i_le q⟩) ⟨rfl, rfl⟩)
theorem t_X3_isLetter {a : Nat} (hd : 0 ≤ d) (hn : 146 ≤ n) (hX : Sh n X) (ha : a < 120) (h : 97 ≤ X 82 a ∧ X 82 a ≤ 122) : Ex g mX3_isLetter d n n [.ref 81, .int (nI a)] X (rt 1 X) :=
  e_of vX3_isLetter (Nat.le_of_ble_eq_true rfl) (cat_of rfl) (bX3_isLetter_0_0 hn hX ha (i_nlt h.1) (i_nlt h.2) ⟨rfl, rfl⟩)
theorem f_X3_isLetter {a : Nat} (hd : 0 ≤ d) (hn : 146 ≤ n) (hX : Sh n X) (ha : a < 120) (h : ¬ (97 ≤ X 82 a ∧ X 82 a ≤ 122)) : Ex g mX3_isLetter d n n [.ref 81, .int (nI a)] X (rt 0 X) :=
  e_of vX3_isLetter (Nat.le_of_ble_eq_true rfl) (cat_of rfl) (by
    by_cases h1 : X 82 a < 97
    · exact bX3_isLetter_0_2 hn hX ha h1 ⟨rfl, rfl⟩
    · exact bX3_isLetter_0_1 hn hX ha h1 (Decidable.byContradiction fun q => h ⟨i_le h1, i_le q⟩) ⟨rfl, rfl⟩)
theorem t_X3_isDigit {a : Nat} (hd : 0 ≤ d) (hn : 146 ≤ n) (hX : Sh n X) (ha : a < 120) (h : 48 ≤ X 82 a ∧ X 82 a ≤ 57) : Ex g mX3_isDigit d n n [.ref 81, .int (nI a)] X (rt 1 X) :=
  e_of vX3_isDigit (Nat.le_of_ble_eq_true rfl) (cat_of rfl) (bX3_isDigit_0_0 hn hX ha (i_nlt h.1) (i_nlt h.2) ⟨rfl, rfl⟩)
theorem f_X3_isDigit {a : Nat} (hd : 0 ≤ d) (hn : 146 ≤ n) (hX : Sh n X) (ha : a < 120) (h : ¬ (48 ≤ X 82 a ∧ X 82 a ≤ 57)) : Ex g mX3_isDigit d n n [.ref 81, .int (nI a)] X (rt 0 X) :=
  e_of vX3_isDigit (Nat.le_of_ble_eq_true rfl) (cat_of rfl) (by
    by_cases h1 : X 82 a < 48
    · exact bX3_isDigit_0_2 hn hX ha h1 ⟨rfl, rfl⟩
    · exact bX3_isDigit_0_1 hn hX ha h1 (Decidable.byContradiction fun q => h ⟨i_le h1, i_le q⟩) ⟨rfl, rfl⟩)
/-- Arrays.fill -/
def fillTo (f : Nat → Int32) (v : Int32) (N : Nat) : Nat → Int32 := fun j => if j < N then v else f j
theorem fillTo_0 (f : Nat → Int32) (v : Int32) : fillTo f v 0 = f := by funext j; simp [fillTo]
theorem fillTo_s (f : Nat → Int32) (v : Int32) (i : Nat) : upd (fillTo f v i) i v = fillTo f v (i + 1) := by
  funext j
  by_cases h : j = i
  · subst h; simp [upd, fillTo]
  · by_cases h2 : j < i
    · simp [upd, fillTo, h, h2, Nat.lt_succ_of_lt h2]
    · simp [upd, fillTo, h, h2, show ¬ j < i + 1 by omega]
theorem lx_row_up (X : LX) (k j : Nat) (f : Nat → Int32) (v : Int32) : lx_up (lx_row X k f) k j v = lx_row X k (upd f j v) := by
  funext a
  by_cases h : a = k
  · subst h; simp [lx_up, lx_row]
  · simp [lx_up, lx_row, h]
theorem lx_row_id (X : LX) (k : Nat) : lx_row X k (X k) = X := by
  funext a
  by_cases h : a = k
  · subst h; simp [lx_row]
  · simp [lx_row, h]
theorem c_J7_fill_53178 {r len : Nat} {v : Int32} (hd : 0 ≤ d) (hn : 146 ≤ n) (hX : Sh n X) (hr : r < n) (hly : LY r = (0, len)) : Ex g mJ7_fill_53178 d n n [.ref r, .int v] X (rv (lx_row X r (fillTo (X r) v len))) := by
  have hl := LY_l hly
  refine e_of vJ7_fill_53178 (Nat.le_of_ble_eq_true rfl) (cat_of rfl) (bJ7_fill_53178_0_0 hn hX hr hly ?_)
  have loop : ∀ i, i ≤ len → Ev g mJ7_fill_53178 d n n (rv (lx_row X r (fillTo (X r) v len))) n 5 [some (.ref r), some (.int v), some (.int (nI i)), some (.int (nI len))] [] (lx_row X r (fillTo (X r) v i)) := by
    refine down ?_ ?_
    · exact bJ7_fill_53178_5_1 hn (hX.row (by rw [hly]; exact (by decide : 0 < 2))) hr hly (nI_le (Nat.le_refl _) (by omega)) ⟨rfl, rfl⟩
    · intro i hi k
      rw [show nI (i + 1) = nI i + 1 from (nI_1 i).symm, ← fillTo_s, ← lx_row_up] at k
      exact bJ7_fill_53178_5_0 hn (hX.row (by rw [hly]; exact (by decide : 0 < 2))) hr hly (nI_ge hi (by omega)) hi k
  have h0 := loop 0 (by omega)
  rw [fillTo_0, lx_row_id] at h0
  exact h0
theorem c_J7_fill_fb410 {r len : Nat} {v : Int32} (hd : 0 ≤ d) (hn : 146 ≤ n) (hX : Sh n X) (hr : r < n) (hly : LY r = (1, len)) : Ex g mJ7_fill_fb410 d n n [.ref r, .int v] X (rv (lx_row X r (fillTo (X r) v.toInt16.toInt32 len))) := by
  have hl := LY_l hly
  refine e_of vJ7_fill_fb410 (Nat.le_of_ble_eq_true rfl) (cat_of rfl) (bJ7_fill_fb410_0_0 hn hX hr hly ?_)
  have loop : ∀ i, i ≤ len → Ev g mJ7_fill_fb410 d n n (rv (lx_row X r (fillTo (X r) v.toInt16.toInt32 len))) n 5 [some (.ref r), some (.int v), some (.int (nI i)), some (.int (nI len))] [] (lx_row X r (fillTo (X r) v.toInt16.toInt32 i)) := by
    refine down ?_ ?_
    · exact bJ7_fill_fb410_5_1 hn (hX.row (by rw [hly]; exact (by decide : 1 < 2))) hr hly (nI_le (Nat.le_refl _) (by omega)) ⟨rfl, rfl⟩
    · intro i hi k
      rw [show nI (i + 1) = nI i + 1 from (nI_1 i).symm, ← fillTo_s, ← lx_row_up] at k
      exact bJ7_fill_fb410_5_0 hn (hX.row (by rw [hly]; exact (by decide : 1 < 2))) hr hly (nI_ge hi (by omega)) hi k
  have h0 := loop 0 (by omega)
  rw [fillTo_0, lx_row_id] at h0
  exact h0
/-- ones (the model's count of the low 16 bits) -/
theorem c_X12_ones {a : Int32} (hd : 0 ≤ d) (hn : 146 ≤ n) (hX : Sh n X) : Ex g mX12_ones d n n [.int a] X (rt (sumTo (fun k => (a >>> (nI k &&& 31)) &&& 1) 16) X) := by
  refine e_of vX12_ones (Nat.le_of_ble_eq_true rfl) (cat_of rfl) (bX12_ones_0_0 hn hX ?_)
  have loop : ∀ i, i ≤ 16 → Ev g mX12_ones d n n (rt (sumTo (fun k => (a >>> (nI k &&& 31)) &&& 1) 16) X) n 4 [some (.int a), some (.int (sumTo (fun k => (a >>> (nI k &&& 31)) &&& 1) i)), some (.int (nI i))] [] X := by
    refine down ?_ ?_
    · exact bX12_ones_4_1 hn hX (show nI 16 ≤ nI 16 from nI_le (by omega) (by omega)) ⟨rfl, rfl⟩
    · intro i hi k
      rw [show nI (i + 1) = nI i + 1 from (nI_1 i).symm] at k
      exact bX12_ones_4_0 hn hX (show ¬ nI 16 ≤ nI i from nI_ge hi (by omega)) k
  exact loop 0 (by omega)
end H1
