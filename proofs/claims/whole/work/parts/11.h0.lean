/-! CONTRACTS OF THE SMALLEST METHODS. -/
def sumTo (f : Nat → Int32) : Nat → Int32
  | 0 => 0
  | n + 1 => sumTo f n + f n
def orTo (f : Nat → Int32) : Nat → Int32
  | 0 => 0
  | n + 1 => orTo f n ||| f n
theorem down {P : Nat → Prop} {N : Nat} (he : P N) (hs : ∀ i, i < N → P (i + 1) → P i) : ∀ i, i ≤ N → P i := by
  have h : ∀ k i, i + k = N → P i := by
    intro k
    induction k with
    | zero => intro i hi; rw [show i = N by omega]; exact he
    | succ k ih => intro i hi; exact hs i (by omega) (ih (i + 1) (by omega))
  exact fun i hi => h (N - i) i (by omega)
theorem down0 {P : Nat → Prop} {N : Nat} (he : P N) (hs : ∀ i, i < N → P (i + 1) → P i) : P 0 := down he hs 0 (Nat.zero_le N)
theorem cat_of {av : List Value} (h : av.all (fun v => v.category == 1) = true) : ∀ v ∈ av, v.category = 1 := fun v hv => by simpa using List.all_eq_true.mp h v hv
theorem i_nlt {x y : Int32} (h : y ≤ x) : ¬ x < y := Int32.not_lt.mpr h
theorem i_nle {x y : Int32} (h : y < x) : ¬ x ≤ y := Int32.not_le.mpr h
theorem i_le {x y : Int32} (h : ¬ y < x) : x ≤ y := Int32.not_lt.mp h
theorem i_lt {x y : Int32} (h : ¬ y ≤ x) : x < y := Int32.not_le.mp h
section H0
variable {g : GG} {d n : Nat} {X : LX}
theorem t_X11_isIn {a b c : Int32} (hd : 0 ≤ d) (hn : 146 ≤ n) (hX : Sh n X) (h : b ≤ a ∧ a ≤ c) : Ex g mX11_isIn d n n [.int a, .int b, .int c] X (rt 1 X) :=
  e_of vX11_isIn (Nat.le_of_ble_eq_true rfl) (cat_of rfl) (bX11_isIn_0_0 hn hX (i_nlt h.1) (i_nlt h.2) ⟨rfl, rfl⟩)
theorem f_X11_isIn {a b c : Int32} (hd : 0 ≤ d) (hn : 146 ≤ n) (hX : Sh n X) (h : ¬ (b ≤ a ∧ a ≤ c)) : Ex g mX11_isIn d n n [.int a, .int b, .int c] X (rt 0 X) :=
  e_of vX11_isIn (Nat.le_of_ble_eq_true rfl) (cat_of rfl) (by
    by_cases h1 : a < b
    · exact bX11_isIn_0_2 hn hX h1 ⟨rfl, rfl⟩
    · exact bX11_isIn_0_1 hn hX h1 (Decidable.byContradiction fun q => h ⟨i_le h1, i_le q⟩) ⟨rfl, rfl⟩)
theorem t_X12_within {a b c : Int32} (hd : 0 ≤ d) (hn : 146 ≤ n) (hX : Sh n X) (h : b ≤ a ∧ a ≤ c) : Ex g mX12_within d n n [.int a, .int b, .int c] X (rt 1 X) :=
  e_of vX12_within (Nat.le_of_ble_eq_true rfl) (cat_of rfl) (bX12_within_0_0 hn hX (i_nlt h.1) (i_nlt h.2) ⟨rfl, rfl⟩)
theorem f_X12_within {a b c : Int32} (hd : 0 ≤ d) (hn : 146 ≤ n) (hX : Sh n X) (h : ¬ (b ≤ a ∧ a ≤ c)) : Ex g mX12_within d n n [.int a, .int b, .int c] X (rt 0 X) :=
  e_of vX12_within (Nat.le_of_ble_eq_true rfl) (cat_of rfl) (by
    by_cases h1 : a < b
    · exact bX12_within_0_2 hn hX h1 ⟨rfl, rfl⟩
    · exact bX12_within_0_1 hn hX h1 (Decidable.byContradiction fun q => h ⟨i_le h1, i_le q⟩) ⟨rfl, rfl⟩)
theorem t_X11_hasBit {a b : Int32} (hd : 0 ≤ d) (hn : 146 ≤ n) (hX : Sh n X) (h : ¬ (a >>> (b &&& 31)) &&& 1 = 0) : Ex g mX11_hasBit d n n [.int a, .int b] X (rt 1 X) :=
  e_of vX11_hasBit (Nat.le_of_ble_eq_true rfl) (cat_of rfl) (bX11_hasBit_0_0 hn hX h ⟨rfl, rfl⟩)
theorem f_X11_hasBit {a b : Int32} (hd : 0 ≤ d) (hn : 146 ≤ n) (hX : Sh n X) (h : ¬ (¬ (a >>> (b &&& 31)) &&& 1 = 0)) : Ex g mX11_hasBit d n n [.int a, .int b] X (rt 0 X) :=
  e_of vX11_hasBit (Nat.le_of_ble_eq_true rfl) (cat_of rfl) (bX11_hasBit_0_1 hn hX (Decidable.of_not_not h) ⟨rfl, rfl⟩)
theorem t_X11_isBitsBelow {a b : Int32} (hd : 0 ≤ d) (hn : 146 ≤ n) (hX : Sh n X) (h : 0 ≤ a ∧ a >>> (b &&& 31) = 0) : Ex g mX11_isBitsBelow d n n [.int a, .int b] X (rt 1 X) :=
  e_of vX11_isBitsBelow (Nat.le_of_ble_eq_true rfl) (cat_of rfl) (bX11_isBitsBelow_0_0 hn hX (i_nlt h.1) h.2 ⟨rfl, rfl⟩)
theorem f_X11_isBitsBelow {a b : Int32} (hd : 0 ≤ d) (hn : 146 ≤ n) (hX : Sh n X) (h : ¬ (0 ≤ a ∧ a >>> (b &&& 31) = 0)) : Ex g mX11_isBitsBelow d n n [.int a, .int b] X (rt 0 X) :=
  e_of vX11_isBitsBelow (Nat.le_of_ble_eq_true rfl) (cat_of rfl) (by
    by_cases h1 : a < 0
    · exact bX11_isBitsBelow_0_2 hn hX h1 ⟨rfl, rfl⟩
    · exact bX11_isBitsBelow_0_1 hn hX h1 (fun q => h ⟨i_le h1, q⟩) ⟨rfl, rfl⟩)
theorem t_X11_truth {a : Int32} (hd : 0 ≤ d) (hn : 146 ≤ n) (hX : Sh n X) (h : ¬ a = 0) : Ex g mX11_truth d n n [.int a] X (rt 1 X) :=
  e_of vX11_truth (Nat.le_of_ble_eq_true rfl) (cat_of rfl) (bX11_truth_0_0 hn hX h ⟨rfl, rfl⟩)
theorem f_X11_truth {a : Int32} (hd : 0 ≤ d) (hn : 146 ≤ n) (hX : Sh n X) (h : ¬ (¬ a = 0)) : Ex g mX11_truth d n n [.int a] X (rt 0 X) :=
  e_of vX11_truth (Nat.le_of_ble_eq_true rfl) (cat_of rfl) (bX11_truth_0_1 hn hX (Decidable.of_not_not h) ⟨rfl, rfl⟩)
theorem t_X12_has {a b : Int32} (hd : 0 ≤ d) (hn : 146 ≤ n) (hX : Sh n X) (h : (a >>> (b &&& 31)) &&& 1 = 1) : Ex g mX12_has d n n [.int a, .int b] X (rt 1 X) :=
  e_of vX12_has (Nat.le_of_ble_eq_true rfl) (cat_of rfl) (bX12_has_0_0 hn hX h ⟨rfl, rfl⟩)
theorem f_X12_has {a b : Int32} (hd : 0 ≤ d) (hn : 146 ≤ n) (hX : Sh n X) (h : ¬ ((a >>> (b &&& 31)) &&& 1 = 1)) : Ex g mX12_has d n n [.int a, .int b] X (rt 0 X) :=
  e_of vX12_has (Nat.le_of_ble_eq_true rfl) (cat_of rfl) (bX12_has_0_1 hn hX h ⟨rfl, rfl⟩)
theorem c_X12_ofPart {a b : Int32} (hd : 0 ≤ d) (hn : 146 ≤ n) (hX : Sh n X) : Ex g mX12_ofPart d n n [.int a, .int b] X (rt (10 + 8 * a + b) X) := e_of vX12_ofPart (Nat.le_of_ble_eq_true rfl) (cat_of rfl) (bX12_ofPart_0_0 hn hX ⟨rfl, rfl⟩)
theorem c_X12_ofMeal {a b : Int32} (hd : 0 ≤ d) (hn : 146 ≤ n) (hX : Sh n X) : Ex g mX12_ofMeal d n n [.int a, .int b] X (rt (318 + 13 * a + b) X) := e_of vX12_ofMeal (Nat.le_of_ble_eq_true rfl) (cat_of rfl) (bX12_ofMeal_0_0 hn hX ⟨rfl, rfl⟩)
theorem c_X12_ofFamily {a b : Int32} (hd : 0 ≤ d) (hn : 146 ≤ n) (hX : Sh n X) : Ex g mX12_ofFamily d n n [.int a, .int b] X (rt (448 + 15 * a + b) X) := e_of vX12_ofFamily (Nat.le_of_ble_eq_true rfl) (cat_of rfl) (bX12_ofFamily_0_0 hn hX ⟨rfl, rfl⟩)
theorem c_X12_ofLot {a b : Int32} (hd : 0 ≤ d) (hn : 146 ≤ n) (hX : Sh n X) : Ex g mX12_ofLot d n n [.int a, .int b] X (rt (628 + 5 * a + b) X) := e_of vX12_ofLot (Nat.le_of_ble_eq_true rfl) (cat_of rfl) (bX12_ofLot_0_0 hn hX ⟨rfl, rfl⟩)
theorem t_X7_has {a : Int32} (hd : 0 ≤ d) (hn : 146 ≤ n) (hX : Sh n X) (h : 0 ≤ a ∧ a < X 2 0) : Ex g mX7_has d n n [.ref 2, .int a] X (rt 1 X) :=
  e_of vX7_has (Nat.le_of_ble_eq_true rfl) (cat_of rfl) (bX7_has_0_0 hn hX (i_nlt h.1) (i_nle h.2) ⟨rfl, rfl⟩)
theorem f_X7_has {a : Int32} (hd : 0 ≤ d) (hn : 146 ≤ n) (hX : Sh n X) (h : ¬ (0 ≤ a ∧ a < X 2 0)) : Ex g mX7_has d n n [.ref 2, .int a] X (rt 0 X) :=
  e_of vX7_has (Nat.le_of_ble_eq_true rfl) (cat_of rfl) (by
    by_cases h1 : a < 0
    · exact bX7_has_0_2 hn hX h1 ⟨rfl, rfl⟩
    · exact bX7_has_0_1 hn hX h1 (i_le (fun q => h ⟨i_le h1, q⟩)) ⟨rfl, rfl⟩)
theorem t_X5_has {a : Int32} (hd : 0 ≤ d) (hn : 146 ≤ n) (hX : Sh n X) (h : 0 ≤ a ∧ a < X 23 0) : Ex g mX5_has d n n [.ref 23, .int a] X (rt 1 X) :=
  e_of vX5_has (Nat.le_of_ble_eq_true rfl) (cat_of rfl) (bX5_has_0_0 hn hX (i_nlt h.1) (i_nle h.2) ⟨rfl, rfl⟩)
theorem f_X5_has {a : Int32} (hd : 0 ≤ d) (hn : 146 ≤ n) (hX : Sh n X) (h : ¬ (0 ≤ a ∧ a < X 23 0)) : Ex g mX5_has d n n [.ref 23, .int a] X (rt 0 X) :=
  e_of vX5_has (Nat.le_of_ble_eq_true rfl) (cat_of rfl) (by
    by_cases h1 : a < 0
    · exact bX5_has_0_2 hn hX h1 ⟨rfl, rfl⟩
    · exact bX5_has_0_1 hn hX h1 (i_le (fun q => h ⟨i_le h1, q⟩)) ⟨rfl, rfl⟩)
theorem t_X0_has {a : Int32} (hd : 0 ≤ d) (hn : 146 ≤ n) (hX : Sh n X) (h : 0 ≤ a ∧ a < X 37 0) : Ex g mX0_has d n n [.ref 37, .int a] X (rt 1 X) :=
  e_of vX0_has (Nat.le_of_ble_eq_true rfl) (cat_of rfl) (bX0_has_0_0 hn hX (i_nlt h.1) (i_nle h.2) ⟨rfl, rfl⟩)
theorem f_X0_has {a : Int32} (hd : 0 ≤ d) (hn : 146 ≤ n) (hX : Sh n X) (h : ¬ (0 ≤ a ∧ a < X 37 0)) : Ex g mX0_has d n n [.ref 37, .int a] X (rt 0 X) :=
  e_of vX0_has (Nat.le_of_ble_eq_true rfl) (cat_of rfl) (by
    by_cases h1 : a < 0
    · exact bX0_has_0_2 hn hX h1 ⟨rfl, rfl⟩
    · exact bX0_has_0_1 hn hX h1 (i_le (fun q => h ⟨i_le h1, q⟩)) ⟨rfl, rfl⟩)
theorem t_X4_has {a : Int32} (hd : 0 ≤ d) (hn : 146 ≤ n) (hX : Sh n X) (h : 0 ≤ a ∧ a < X 69 0) : Ex g mX4_has d n n [.ref 69, .int a] X (rt 1 X) :=
  e_of vX4_has (Nat.le_of_ble_eq_true rfl) (cat_of rfl) (bX4_has_0_0 hn hX (i_nlt h.1) (i_nle h.2) ⟨rfl, rfl⟩)
theorem f_X4_has {a : Int32} (hd : 0 ≤ d) (hn : 146 ≤ n) (hX : Sh n X) (h : ¬ (0 ≤ a ∧ a < X 69 0)) : Ex g mX4_has d n n [.ref 69, .int a] X (rt 0 X) :=
  e_of vX4_has (Nat.le_of_ble_eq_true rfl) (cat_of rfl) (by
    by_cases h1 : a < 0
    · exact bX4_has_0_2 hn hX h1 ⟨rfl, rfl⟩
    · exact bX4_has_0_1 hn hX h1 (i_le (fun q => h ⟨i_le h1, q⟩)) ⟨rfl, rfl⟩)
end H0
