/-! CONTRACTS: whether a family may eat a meal. -/
abbrev cMay (X : LX) (f m : Nat) : Prop := cAll X m &&& X 38 f = 0 ∧ (X 40 f = 0 ∨ isKd X m 2)
abbrev mMay (X : LX) (f m : Nat) : Prop := mAll X m &&& X 134 (448 + 15 * f + 0) = 0 ∧ (X 134 (448 + 15 * f + 2) = 0 ∨ 2 ≤ X 134 (318 + 13 * m + 0))
def us (x k : Int32) : Int32 := (x.toUInt32 >>> (k.toUInt32 &&& Int32.toUInt32 31)).toInt32
def bc (x : Int32) : Int32 :=
  let a := x - (us x 1 &&& 1431655765)
  let b := (a &&& 858993459) + (us a 2 &&& 858993459)
  let c := (b + us b 4) &&& 252645135
  let e := c + us c 8
  let f := e + us e 16
  f &&& 63
section H4
variable {g : GG} {d n : Nat} {X : LX}
theorem t_X1_mayEat {f m : Nat} (hd : 1 ≤ d) (hn : 146 ≤ n) (hX : Sh n X) (hf : f < 12) (hm : m < 10) (hP : num X 2 0 14) (h : cMay X f m) : Ex g mX1_mayEat d n n [.ref 1, .int (nI f), .int (nI m)] X (rt 1 X) :=
  e_of vX1_mayEat (Nat.le_of_ble_eq_true rfl) (cat_of rfl) (by
    by_cases h1 : X 40 f = 0
    · exact bX1_mayEat_0_3 hd hn hX hm hP hf h.1 h1 ⟨rfl, rfl⟩
    · exact bX1_mayEat_0_1 hd hn hX hm hP hf h.1 h1 (h.2.resolve_left h1) ⟨rfl, rfl⟩)
theorem f_X1_mayEat {f m : Nat} (hd : 1 ≤ d) (hn : 146 ≤ n) (hX : Sh n X) (hf : f < 12) (hm : m < 10) (hP : num X 2 0 14) (h : ¬ cMay X f m) : Ex g mX1_mayEat d n n [.ref 1, .int (nI f), .int (nI m)] X (rt 0 X) :=
  e_of vX1_mayEat (Nat.le_of_ble_eq_true rfl) (cat_of rfl) (by
    by_cases h0 : cAll X m &&& X 38 f = 0
    · have h1 : ¬ X 40 f = 0 := fun q => h ⟨h0, Or.inl q⟩
      exact bX1_mayEat_0_2 hd hn hX hm hP hf h0 h1 (fun q => h ⟨h0, Or.inr q⟩) ⟨rfl, rfl⟩
    · exact bX1_mayEat_0_0 hd hn hX hm hP hf h0 ⟨rfl, rfl⟩)
theorem t_X12_mayEat {f m : Nat} (hd : 2 ≤ d) (hn : 146 ≤ n) (hX : Sh n X) (hf : f < 12) (hm : m < 10) (hk : okM X m) (h : mMay X f m) : Ex g mX12_mayEat d n n [.ref 133, .int (nI f), .int (nI m)] X (rt 1 X) :=
  e_of vX12_mayEat (Nat.le_of_ble_eq_true rfl) (cat_of rfl) (by
    by_cases h1 : X 134 (448 + 15 * f + 2) = 0
    · exact bX12_mayEat_0_2 hd hn hX hm hk (by omega) h.1 (by omega) h1 ⟨rfl, rfl⟩
    · exact bX12_mayEat_0_0 hd hn hX hm hk (by omega) h.1 (by omega) h1 (h.2.resolve_left h1) ⟨rfl, rfl⟩)
theorem f_X12_mayEat {f m : Nat} (hd : 2 ≤ d) (hn : 146 ≤ n) (hX : Sh n X) (hf : f < 12) (hm : m < 10) (hk : okM X m) (h : ¬ mMay X f m) : Ex g mX12_mayEat d n n [.ref 133, .int (nI f), .int (nI m)] X (rt 0 X) :=
  e_of vX12_mayEat (Nat.le_of_ble_eq_true rfl) (cat_of rfl) (by
    by_cases h0 : mAll X m &&& X 134 (448 + 15 * f + 0) = 0
    · have h1 : ¬ X 134 (448 + 15 * f + 2) = 0 := fun q => h ⟨h0, Or.inl q⟩
      exact bX12_mayEat_0_1 hd hn hX hm hk (by omega) h0 (by omega) h1 (fun q => h ⟨h0, Or.inr q⟩) ⟨rfl, rfl⟩
    · exact bX12_mayEat_0_3 hd hn hX hm hk (by omega) h0 ⟨rfl, rfl⟩)
/-- Integer.bitCount -/
theorem k_J6_bitCount_0f7a4 {a : Int32} (hd : 0 ≤ d) (hn : 146 ≤ n) (hX : Sh n X) : Ex g mJ6_bitCount_0f7a4 d n n [.int a] X (rt (bc a) X) :=
  e_of vJ6_bitCount_0f7a4 (Nat.le_of_ble_eq_true rfl) (cat_of rfl) (bJ6_bitCount_0f7a4_0_0 hn hX ⟨rfl, rfl⟩)
end H4
