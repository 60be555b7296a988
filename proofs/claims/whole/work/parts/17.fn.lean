/-! THE FUNCTIONS that the methods compute, by the cells (c..: the class, m..: the model), and their contracts without counts as arguments. -/
def ix (x : Int32) : Nat := x.toNatClampNeg
theorem ix_nI {k : Nat} (h : k < 2 ^ 31) : ix (nI k) = k := nI_clamp h
/-- a cell's slot holds a number of at most N -/
def num (X : LX) (k j N : Nat) : Prop := ∃ a, a ≤ N ∧ X k j = nI a
theorem num.eq {X : LX} {k j N : Nat} (h : num X k j N) (hN : N < 2 ^ 31) : X k j = nI (ix (X k j)) ∧ ix (X k j) ≤ N := by
  obtain ⟨a, ha, e⟩ := h
  rw [e, ix_nI (by omega)]
  exact ⟨rfl, ha⟩
def cAll (X : LX) (m : Nat) : Int32 := orTo (fun p => if X (26 + 1 + m) p ≤ 0 then 0 else X 3 p) (ix (X 2 0))
def cCost (X : LX) (m : Nat) : Int32 := sumTo (fun p => X (26 + 1 + m) p * X 5 p / 100) (ix (X 2 0))
def cGr (X : LX) (m : Nat) : Int32 := sumTo (X (26 + 1 + m)) 14
def cCnt (X : LX) (m : Nat) : Int32 := sumTo (fun p => if X (26 + 1 + m) p ≤ 0 then 0 else 1) 14
def cLeft (X : LX) (p : Int32) : Int32 := sumTo (fun l => if X 70 l = p then X 73 l else 0) (ix (X 69 0))
def cCame (X : LX) (p : Int32) : Int32 := sumTo (fun l => if X 70 l = p then X 71 l else 0) (ix (X 69 0))
def ones (a : Int32) : Int32 := sumTo (fun k => (a >>> (nI k &&& 31)) &&& 1) 16
def mMany (X : LX) (m : Nat) : Nat := ix (X 134 (318 + 13 * m + 2))
def mQ (X : LX) (m k : Nat) : Nat := ix (X 134 (318 + 13 * m + (3 + k)))
/-- a meal's list of parts is well formed -/
def okM (X : LX) (m : Nat) : Prop := num X 134 (318 + 13 * m + 2) 5 ∧ ∀ k, k < mMany X m → num X 134 (318 + 13 * m + (3 + k)) 13
def mAll (X : LX) (m : Nat) : Int32 := orTo (fun k => X 134 (10 + 8 * mQ X m k + 0)) (mMany X m)
def mCost (X : LX) (m : Nat) : Int32 := sumTo (fun k => X 134 (318 + 13 * m + (8 + k)) * X 134 (10 + 8 * mQ X m k + 1) / 100) (mMany X m)
def mGr (X : LX) (m : Nat) : Int32 := sumTo (fun k => X 134 (318 + 13 * m + (8 + k))) (mMany X m)
def mStock (X : LX) (p : Int32) : Int32 := sumTo (fun l => if X 134 (628 + 5 * l + 0) = p then X 134 (628 + 5 * l + 3) else 0) (ix (X 134 7))
section FN
variable {g : GG} {d n : Nat} {X : LX}
theorem k_X1_allergensOf {m : Nat} (hd : 0 ≤ d) (hn : 146 ≤ n) (hX : Sh n X) (hm : m < 10) (hP : num X 2 0 14) : Ex g mX1_allergensOf d n n [.ref 1, .int (nI m)] X (rt (cAll X m) X) :=
  c_X1_allergensOf hd hn hX hm (hP.eq (by omega)).1 (hP.eq (by omega)).2
theorem k_X1_costOf {m : Nat} (hd : 0 ≤ d) (hn : 146 ≤ n) (hX : Sh n X) (hm : m < 10) (hP : num X 2 0 14) : Ex g mX1_costOf d n n [.ref 1, .int (nI m)] X (rt (cCost X m) X) :=
  c_X1_costOf hd hn hX hm (hP.eq (by omega)).1 (hP.eq (by omega)).2
theorem k_X5_gramsOf {m : Nat} (hd : 0 ≤ d) (hn : 146 ≤ n) (hX : Sh n X) (hm : m < 10) : Ex g mX5_gramsOf d n n [.ref 23, .int (nI m)] X (rt (cGr X m) X) := c_X5_gramsOf hd hn hX hm
theorem k_X5_partsIn {m : Nat} (hd : 0 ≤ d) (hn : 146 ≤ n) (hX : Sh n X) (hm : m < 10) : Ex g mX5_partsIn d n n [.ref 23, .int (nI m)] X (rt (cCnt X m) X) := c_X5_partsIn hd hn hX hm
theorem k_X4_leftOf {p : Int32} (hd : 0 ≤ d) (hn : 146 ≤ n) (hX : Sh n X) (hN : num X 69 0 40) : Ex g mX4_leftOf d n n [.ref 69, .int p] X (rt (cLeft X p) X) := c_X4_leftOf hd hn hX (hN.eq (by omega)).1 (hN.eq (by omega)).2
theorem k_X4_cameOf {p : Int32} (hd : 0 ≤ d) (hn : 146 ≤ n) (hX : Sh n X) (hN : num X 69 0 40) : Ex g mX4_cameOf d n n [.ref 69, .int p] X (rt (cCame X p) X) := c_X4_cameOf hd hn hX (hN.eq (by omega)).1 (hN.eq (by omega)).2
theorem k_X12_ones {a : Int32} (hd : 0 ≤ d) (hn : 146 ≤ n) (hX : Sh n X) : Ex g mX12_ones d n n [.int a] X (rt (ones a) X) := c_X12_ones hd hn hX
theorem okM.q {m : Nat} (h : okM X m) : ∀ k, k < mMany X m → X 134 (318 + 13 * m + (3 + k)) = nI (mQ X m k) ∧ mQ X m k < 14 := fun k hk => ⟨((h.2 k hk).eq (by omega)).1, by have := ((h.2 k hk).eq (by omega)).2; unfold mQ; omega⟩
theorem k_X12_allergens {m : Nat} (hd : 1 ≤ d) (hn : 146 ≤ n) (hX : Sh n X) (hm : m < 10) (hk : okM X m) : Ex g mX12_allergens d n n [.ref 133, .int (nI m)] X (rt (mAll X m) X) :=
  c_X12_allergens hd hn hX hm (hk.1.eq (by omega)).1 (hk.1.eq (by omega)).2 hk.q
theorem k_X12_cost {m : Nat} (hd : 1 ≤ d) (hn : 146 ≤ n) (hX : Sh n X) (hm : m < 10) (hk : okM X m) : Ex g mX12_cost d n n [.ref 133, .int (nI m)] X (rt (mCost X m) X) :=
  c_X12_cost hd hn hX hm (hk.1.eq (by omega)).1 (hk.1.eq (by omega)).2 hk.q
theorem k_X12_grams {m : Nat} (hd : 1 ≤ d) (hn : 146 ≤ n) (hX : Sh n X) (hm : m < 10) (hk : okM X m) : Ex g mX12_grams d n n [.ref 133, .int (nI m)] X (rt (mGr X m) X) :=
  c_X12_grams hd hn hX hm (hk.1.eq (by omega)).1 (hk.1.eq (by omega)).2
theorem k_X12_stockOf {p : Int32} (hd : 1 ≤ d) (hn : 146 ≤ n) (hX : Sh n X) (hN : num X 134 7 40) : Ex g mX12_stockOf d n n [.ref 133, .int p] X (rt (mStock X p) X) := c_X12_stockOf hd hn hX (hN.eq (by omega)).1 (hN.eq (by omega)).2
end FN
