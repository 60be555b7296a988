/-! THE INVARIANT between the class's cells C (C k = the kitchen's cell k) and the model's row A, by regions. LR: the two laws' codes (a relation that looks at C 77 .. 80, A 2 and A 2028 .. alone). -/
/-- counts and small numbers -/
def R1 (C : LX) (A : Nat → Int32) : Prop := (C 1 5 = A 0 ∧ C 1 7 = A 1 ∧ C 1 8 = A 3 ∧ C 1 6 = A 8 ∧ C 2 0 = A 4 ∧ C 23 0 = A 5 ∧ C 37 0 = A 6 ∧ C 69 0 = A 7) ∧ (∃ a, a ≤ 99 ∧ A 0 = nI a) ∧ (A 3 = 0 ∨ A 3 = 1) ∧ (∃ a, a ≤ 14 ∧ A 4 = nI a) ∧ (∃ a, a ≤ 10 ∧ A 5 = nI a ∧ 0 ≤ A 8 ∧ A 8 >>> (nI a &&& 31) = 0) ∧ (∃ a, a ≤ 12 ∧ A 6 = nI a) ∧ (∃ a, a ≤ 40 ∧ A 7 = nI a)
/-- parts -/
def R2 (C : LX) (A : Nat → Int32) : Prop := ∀ i, i < 14 → C 3 i = A (10 + 8 * i + 0) ∧ C 5 i = A (10 + 8 * i + 1) ∧ C 6 i = A (10 + 8 * i + 2) ∧ C 4 i = A (10 + 8 * i + 3) ∧ C 7 i = A (10 + 8 * i + 4) ∧ C 75 i = A (10 + 8 * i + 6) ∧ C 76 i = A (10 + 8 * i + 7)
/-- how unlike two parts are -/
def R3 (C : LX) (A : Nat → Int32) : Prop := ∀ i, i < 14 → ∀ j, j < 14 → C (8 + 1 + i) j = A (122 + 14 * i + j)
/-- lots -/
def R7 (C : LX) (A : Nat → Int32) : Prop := ∀ l, l < 40 → C 70 l = A (628 + 5 * l + 0) ∧ C 71 l = A (628 + 5 * l + 1) ∧ C 72 l = A (628 + 5 * l + 2) ∧ C 73 l = A (628 + 5 * l + 3) ∧ C 74 l = A (628 + 5 * l + 4)
/-- boxes of the weeks -/
def R6 (C : LX) (A : Nat → Int32) : Prop := ∀ f, f < 12 → ∀ w, w < 100 → C (56 + 1 + f) w = A (828 + 12 * w + f)
theorem ri_1 : R1 XI (XI 134) := ⟨by decide +kernel, ⟨0, by decide, by decide +kernel⟩, by decide +kernel, ⟨0, by decide, by decide +kernel⟩, ⟨0, by decide, by decide +kernel⟩, ⟨0, by decide, by decide +kernel⟩, ⟨0, by decide, by decide +kernel⟩⟩
theorem ri_2 : R2 XI (XI 134) := by unfold R2; decide +kernel
theorem ri_3 : R3 XI (XI 134) := by unfold R3; decide +kernel
theorem ri_7 : R7 XI (XI 134) := by unfold R7; decide +kernel
theorem ri_6 : R6 XI (XI 134) := by unfold R6; decide +kernel
/-- frames: a region stays where its cells stay -/
theorem R1.fr {C C' : LX} {A A' : Nat → Int32} (h : R1 C A) (h1 : C' 1 5 = C 1 5 ∧ C' 1 6 = C 1 6 ∧ C' 1 7 = C 1 7 ∧ C' 1 8 = C 1 8 ∧ C' 2 0 = C 2 0 ∧ C' 23 0 = C 23 0 ∧ C' 37 0 = C 37 0 ∧ C' 69 0 = C 69 0) (hA : ∀ j, j < 10 → A' j = A j) : R1 C' A' := by
  obtain ⟨e5, e6, e7, e8, f2, f23, f37, f69⟩ := h1
  unfold R1
  rw [e5, e6, e7, e8, f2, f23, f37, f69, hA 0 (by omega), hA 1 (by omega), hA 3 (by omega), hA 8 (by omega), hA 4 (by omega), hA 5 (by omega), hA 6 (by omega), hA 7 (by omega)]
  exact h
theorem R2.fr {C C' : LX} {A A' : Nat → Int32} (h : R2 C A) (hC : ∀ k, (3 ≤ k ∧ k ≤ 7) ∨ k = 75 ∨ k = 76 → C' k = C k) (hA : ∀ j, 10 ≤ j → j < 122 → A' j = A j) : R2 C' A' := by
  intro i hi
  rw [hC 3 (by omega), hC 4 (by omega), hC 5 (by omega), hC 6 (by omega), hC 7 (by omega), hC 75 (by omega), hC 76 (by omega), hA _ (by omega) (by omega), hA _ (by omega) (by omega), hA _ (by omega) (by omega), hA _ (by omega) (by omega), hA _ (by omega) (by omega), hA _ (by omega) (by omega), hA _ (by omega) (by omega)]
  exact h i hi
theorem R3.fr {C C' : LX} {A A' : Nat → Int32} (h : R3 C A) (hC : ∀ k, 9 ≤ k → k ≤ 22 → C' k = C k) (hA : ∀ j, 122 ≤ j → j < 318 → A' j = A j) : R3 C' A' := by
  intro i hi j hj
  rw [hC _ (by omega) (by omega), hA _ (by omega) (by omega)]
  exact h i hi j hj
theorem R7.fr {C C' : LX} {A A' : Nat → Int32} (h : R7 C A) (hC : ∀ k, 70 ≤ k → k ≤ 74 → C' k = C k) (hA : ∀ j, 628 ≤ j → j < 828 → A' j = A j) : R7 C' A' := by
  intro l hl
  rw [hC 70 (by omega) (by omega), hC 71 (by omega) (by omega), hC 72 (by omega) (by omega), hC 73 (by omega) (by omega), hC 74 (by omega) (by omega), hA _ (by omega) (by omega), hA _ (by omega) (by omega), hA _ (by omega) (by omega), hA _ (by omega) (by omega), hA _ (by omega) (by omega)]
  exact h l hl
theorem R6.fr {C C' : LX} {A A' : Nat → Int32} (h : R6 C A) (hC : ∀ k, 57 ≤ k → k ≤ 68 → C' k = C k) (hA : ∀ j, 828 ≤ j → j < 2028 → A' j = A j) : R6 C' A' := by
  intro f hf w hw
  rw [hC _ (by omega) (by omega), hA _ (by omega) (by omega)]
  exact h f hf w hw
